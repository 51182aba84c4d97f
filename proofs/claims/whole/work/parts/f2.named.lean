/-! Layer C: named, count, place -/
theorem fsA_cg {f g : Nat → Int64} {y z : Int64} : ∀ (d i : Nat), (∀ k, i ≤ k → k < i + d → (f k = y) = (g k = z)) → fsA f y d i = fsA g z d i
  | 0, i, _ => rfl
  | d + 1, i, h => by
    have e1 : fsA f y (d + 1) i = if f i = y then i else fsA f y d (i + 1) := rfl
    have e2 : fsA g z (d + 1) i = if g i = z then i else fsA g z d (i + 1) := rfl
    have h0 := h i (Nat.le_refl _) (by omega)
    have ih := fsA_cg d (i + 1) (fun k h1 h2 => h k (by omega) (by omega))
    rw [e1, e2, ih]
    by_cases w : f i = y
    · rw [if_pos w, if_pos (h0 ▸ w)]
    · rw [if_neg w, if_neg (h0 ▸ w)]
theorem named76_e {m : Mem} {n : Nat} (hn : n ≤ 60) (hm : mI m 1584 0 = nj n) : ∀ (d i fu : Nat), i + d = n → d < fu → R_named_76 fu (nj i) m = some (if fsA (aL m 35) (aL m 6 0) d i < n then nj (fsA (aL m 35) (aL m 6 0) d i) else -1, m)
  | 0, i, fu + 1, h, _ => by
    rw [R_named_76.eq_2, hm, if_pos (by rw [nj_le (by omega) (by omega)]; omega), if_neg (by show ¬ i < n; omega)]
  | d + 1, i, fu + 1, h, h2 => by
    rw [R_named_76.eq_2, hm, if_neg (by rw [nj_le (by omega) (by omega)]; omega), inb_nj (by omega), gd_t (decide_eq_true (by omega)), gd_t (by decide), ix_nj (by omega)]
    have e : fsA (aL m 35) (aL m 6 0) (d + 1) i = if aL m 35 i = aL m 6 0 then i else fsA (aL m 35) (aL m 6 0) d (i + 1) := rfl
    have e0 : ix 0 = 0 := rfl
    simp only [cmp0, e0]
    rw [e]
    by_cases z : aL m 35 i = aL m 6 0
    · rw [if_pos z, if_pos z, if_pos (by omega)]
    · rw [if_neg z, if_neg z, vb_e, nj_add_l]
      exact named76_e hn hm d (i + 1) fu (by omega) (by omega)
theorem st_named {nc n : Nat} {p r : Mem} (C : Core nc p r) (hT : TpN p r n) (hk : KyOk (aL p 21) (aL r 7)) (hN : ∀ k, k < nc → Nm2 (aL p 23 k) (aL r 35 k)) :
    ∃ v p' r', P_named p = some (v, p') ∧ R_named r = some (v, r') ∧ Tp p' r' ∧ (Ch [646, 641] [18, 19, 20] nil p p' ∧ mC p' = mC p ∧ mS p' = mS p) ∧ Ch [1540, 1538, 1546] [2, 3, 4, 5, 6] nil r r' ∧ mC r' = mC r ∧ mS r' = mS r := by
  obtain ⟨T, h82, W, Wf, e1, e2, hn60, e4, e5, -⟩ := C
  have T1 := T.1
  have hn := hT.1
  have c0 : Cpy n 0 (sI r 1540 0 (mI r 1538 0)) (sI r 1540 0 (mI r 1538 0)) := ⟨Ch.rfl, rfl, rfl, fun j hj => absurd hj (Nat.not_lt_zero j)⟩
  have q40 : mI (sI r 1540 0 (mI r 1538 0)) 1540 0 = nj n := by rw [k_mI_sI_e, up1_ap, if_pos rfl]; exact hT.2.2.1
  obtain ⟨m5, b1, b2, b3, b4, b5⟩ := named10_e hn (by rw [k_mC_sI]; exact h82) q40 n 0 FU _ (by omega) (by unfold FU; omega) c0
  have b1' : R_named_10 FU 0 (sI r 1540 0 (mI r 1538 0)) = R_named_36 m5 := b1
  have m5r : Ch [1540, 1538] [2] nil r (sI m5 1538 0 0) := Ch.trans ((Ch.rfl.sI (by decide))) ((b2.mono (fun _ h => absurd h List.not_mem_nil) (fun _ h => h) (fun _ h => h)).sI (by decide))
  obtain ⟨N, kd, pl, p2, r2, T', s1, s2, s3, s4, s5, s6, s7, s8, s9, t1, t2, t3, t4, t5⟩ := scan_both (p := p) (r := r) (p1 := p) (r1 := sI m5 1538 0 0) hT T1 h82 hk hT.2.1 rfl rfl rfl (by rw [k_mI_sI (by omega), b2.i (by decide) (by rw [k_mC_sI]; omega)]; exact q40) (fun j hj => by rw [k_aI_sI, b5 j hj, k_aI_sI]) (by rw [m5r.al (by decide) (fun z => z) (by omega)]) (by rw [k_mC_sI, b3, k_mC_sI])
  have hC2 : mC r2 = mC r := by rw [s8, k_mC_sI, b3, k_mC_sI]
  have hS2 : mS r2 = mS r := by rw [s9, k_mS_sI, b4, k_mS_sI]
  have cR : Ch [1540, 1538, 1546] [2, 3, 4, 5, 6] nil r r2 := Ch.trans (m5r.mono (by decide) (by decide) (fun _ h => h)) (s7.mono (by decide) (by decide) (fun _ h => h))
  have e38 : mI r2 1538 0 = 0 := by rw [s7.i (by decide) (by rw [k_mC_sI, b3, k_mC_sI]; omega), k_mI_sI_e, up1_ap, if_pos rfl]
  have hN1 := s3.1
  have hN2 := s3.2.1
  have k0 := s3.2.2.2.2 0 (by omega)
  have x0 : ix 0 = 0 := rfl
  have x1 : ix 1 = 1 := rfl
  have fin : ∀ v, P_Parser_numberOfOnly p = some (v, p2) → R_named_36 m5 = some (v, r2) → ∃ v p' r', P_named p = some (v, p') ∧ R_named r = some (v, r') ∧ Tp p' r' ∧ (Ch [646, 641] [18, 19, 20] nil p p' ∧ mC p' = mC p ∧ mS p' = mS p) ∧ Ch [1540, 1538, 1546] [2, 3, 4, 5, 6] nil r r' ∧ mC r' = mC r ∧ mS r' = mS r := fun v h1 h2 => by
    refine ⟨v, sI p2 641 16 0, r2, ?_, ?_, tp_0 (by rw [k_mI_sI_e, up1_ap, if_pos rfl]) e38, ⟨(s4.mono (by decide) (fun _ h => h) (fun _ h => h)).sI (by decide), by rw [k_mC_sI]; exact s5, by rw [k_mS_sI]; exact s6⟩, cR, hC2, hS2⟩
    · unfold P_named
      rw [h1, bn_s, vb_e]
    · unfold R_named
      rw [vb_e, b1', h2]
  have eP : P_Parser_numberOfOnly p = if aI p2 18 0 = 2 then (if aI p2 18 1 = 0 then (bn (P_Parser_numberOf (aL p2 20 0) p2) fun r10 m11 => some (r10, m11)) else some (-1, p2)) else some (-1, p2) := by
    unfold P_Parser_numberOfOnly
    rw [s1, bn_s, gd_t (by decide), x0, x1, gd_t (by decide), gd_t (by decide)]
  have eR : R_named_36 m5 = if mI r2 1546 0 = 2 then (if aI r2 3 0 = 1 then (if aI r2 3 1 = 0 then R_named_76 FU 0 r2 else some (-1, r2)) else some (-1, r2)) else some (-1, r2) := by
    unfold R_named_36
    rw [vb_e, s2, bn_s, gd_t (by decide), x0, x1, gd_t (by decide)]
  have E2 : (aI p2 18 0 = 2) = (kd 0 = 2) := by rw [k0.2.2.1]; exact nj_eq_l (by omega) (by omega)
  have E1 : (aI r2 3 0 = 1) = (kd 0 = 2) := by
    rw [k0.2.2.2.1]
    have h2 : nj (kM (kd 0)) = 1 ↔ kM (kd 0) = 1 := by
      have hb : kM (kd 0) < 60 := by
        have : ∀ j, j < 60 → kM j < 60 := by decide +kernel
        exact this _ k0.1
      rw [show (1 : Int32) = nj 1 from rfl, nj_inj (by omega) (by omega)]
    refine propext (h2.trans ⟨fun z => kM_inj _ k0.1 2 (by omega) (z.trans (by decide)), fun z => by rw [z]; decide⟩)
  have E0 : (mI r2 1546 0 = 2) = (T' = 2) := by rw [t1]; exact nj_eq_l (by omega) (by omega)
  by_cases z : kd 0 = 2
  · have hN3 : 2 ≤ N := by
      rcases s3.2.2.1 with w | w
      · omega
      · by_cases y : N = 1
        · rw [y] at w
          have : kd 0 ≤ 1 := w
          omega
        · omega
    have k1 := s3.2.2.2.2 1 (by omega)
    have F1 : (aI p2 18 1 = 0) = (kd 1 = 0) := by rw [k1.2.2.1]; exact nj_eq_l (by omega) (by omega)
    have F2 : (aI r2 3 1 = 0) = (kd 1 = 0) := by
      rw [k1.2.2.2.1]
      have hb : kM (kd 1) < 60 := by
        have : ∀ j, j < 60 → kM j < 60 := by decide +kernel
        exact this _ k1.1
      have h2 : nj (kM (kd 1)) = 0 ↔ kM (kd 1) = 0 := by
        rw [show (0 : Int32) = nj 0 from rfl, nj_inj (by omega) (by omega)]
      exact propext (h2.trans ⟨fun w => kM_inj _ k1.1 0 (by omega) (w.trans (by decide)), fun w => by rw [w]; decide⟩)
    by_cases y : kd 1 = 0
    · have hT' : T' = 2 := by
        by_cases w : 2 < T'
        · exact absurd y (t5 1 (by omega))
        · omega
      have hnm := k0.2.2.2.2.2.2.1 z
      have hn2 : ∀ k, k < nc → Nm2 (aL p2 23 k) (aL r2 35 k) := fun k hk => by
        rw [s4.al (by decide) (fun w => w) (by omega), cR.al (by decide) (fun w => w) (by omega)]
        exact hN k hk
      have h771 : mI p2 771 22 = nj nc := by rw [s4.i (by decide) (by omega)]; exact e4
      have h584 : mI r2 1584 0 = nj nc := by rw [cR.i (by decide) (by omega)]; exact e5
      have a1 : P_Parser_numberOf_2 FU (aL p2 20 0) 0 p2 = some (if fsA (aL p2 23) (aL p2 20 0) nc 0 < nc then nj (fsA (aL p2 23) (aL p2 20 0) nc 0) else -1, p2) := numberOf_e hn60 h771 nc 0 FU (by omega) (by unfold FU; omega)
      have a2 : R_named_76 FU 0 r2 = some (if fsA (aL r2 35) (aL r2 6 0) nc 0 < nc then nj (fsA (aL r2 35) (aL r2 6 0) nc 0) else -1, r2) := named76_e hn60 h584 nc 0 FU (by omega) (by unfold FU; omega)
      have a3 : fsA (aL p2 23) (aL p2 20 0) nc 0 = fsA (aL r2 35) (aL r2 6 0) nc 0 := fsA_cg nc 0 (fun k _ hk => Nm2_eq (hn2 k (by omega)) hnm)
      refine fin (if fsA (aL r2 35) (aL r2 6 0) nc 0 < nc then nj (fsA (aL r2 35) (aL r2 6 0) nc 0) else -1) ?_ ?_
      · rw [eP, if_pos (E2.mpr z), if_pos (F1.mpr y)]
        unfold P_Parser_numberOf
        rw [a1, bn_s, a3]
      · rw [eR, if_pos (E0.mpr hT'), if_pos (E1.mpr z), if_pos (F2.mpr y), a2]
    · refine fin (-1) ?_ ?_
      · rw [eP, if_pos (E2.mpr z), if_neg (fun w => y (F1.mp w))]
      · rw [eR]
        by_cases w : T' = 2
        · rw [if_pos (E0.mpr w), if_pos (E1.mpr z), if_neg (fun w => y (F2.mp w))]
        · rw [if_neg (fun u => w (E0.mp u))]
  · refine fin (-1) ?_ ?_
    · rw [eP, if_neg (fun w => z (E2.mp w))]
    · rw [eR]
      by_cases w : T' = 2
      · rw [if_pos (E0.mpr w), if_neg (fun u => z (E1.mp u))]
      · rw [if_neg (fun u => w (E0.mp u))]
theorem st_count {nc : Nat} {p r : Mem} (C : Core nc p r) (L : Land p r) (hT : Tp p r) (x : Int32) : ∃ v, P_count x p = some (v, p) ∧ R_count x r = some (v, r) := by
  obtain ⟨to, fi, pe, -, -, -, e1, e2, e3, e4, e5, e6, -⟩ := L
  obtain ⟨n, -, t1, t2, -⟩ := hT
  have h514 := C.fc
  have h515 := C.tc
  have h601 := C.rfc
  obtain ⟨-, -, -, -, -, g2, -, g4, g5, -⟩ := C
  unfold P_count R_count
  rw [e1, e2, e3, e4, e5, e6, t1, t2, h514, h515, h601, g2, g4, g5]
  by_cases c0 : x = 0
  · rw [if_pos c0, if_pos c0]; exact ⟨_, rfl, rfl⟩
  · rw [if_neg c0, if_neg c0]
    by_cases c1 : x = 1
    · rw [if_pos c1, if_pos c1]; exact ⟨_, rfl, rfl⟩
    · rw [if_neg c1, if_neg c1]
      by_cases c2 : x = 2
      · rw [if_pos c2, if_pos c2]; exact ⟨_, rfl, rfl⟩
      · rw [if_neg c2, if_neg c2]
        by_cases c3 : x = 3
        · rw [if_pos c3, if_pos c3]; exact ⟨_, rfl, rfl⟩
        · rw [if_neg c3, if_neg c3]
          by_cases c4 : x = 4
          · rw [if_pos c4, if_pos c4]; exact ⟨_, rfl, rfl⟩
          · rw [if_neg c4, if_neg c4]
            by_cases c5 : x = 5
            · rw [if_pos c5, if_pos c5]; exact ⟨_, rfl, rfl⟩
            · rw [if_neg c5, if_neg c5]
              by_cases c6 : x = 6
              · rw [if_pos c6, if_pos c6]; exact ⟨_, rfl, rfl⟩
              · rw [if_neg c6, if_neg c6]; exact ⟨_, rfl, rfl⟩
