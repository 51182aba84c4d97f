/-! Layer C: both sides ahead of a TEXT's first token -/
def bgP (p : Mem) (v : Int32) : Mem := sI (sI (sI (sI (sI (sI (sI (sI (sI p 773 22 0) 774 22 (-1)) 776 22 0) 777 22 (-1)) 778 22 (-1)) 772 22 v) 779 22 0) 782 22 0) 785 22 (-1)
def bgR (r : Mem) (x : Nat) (v : Int32) : Mem := sI (sI (sI (sI (wI (sI (sI (sI (sI (sI r 1547 0 0) 1548 0 0) 1549 0 0) 1551 0 0) 1588 0 (nj x)) 14 x 0) 1580 0 (nj (200 * x))) 1581 0 (nj (500 * x))) 1585 0 v) 1587 0 (-1)
def BgF : List Nat := [773, 774, 776, 777, 778, 772, 779, 782, 785, 646]
def BgR : List Nat := [1540, 1538, 1546, 1547, 1548, 1549, 1551, 1588, 1580, 1581, 1585, 1587]
theorem start_j {p r : Mem} {nc n x : Nat} (C : Core nc p r) (hP : PL p) (hT : TpN p r n) (hk : KyOk (aL p 21) (aL r 7)) (hN : ∀ k, k < nc → Nm2 (aL p 23 k) (aL r 35 k)) (hx : (dat r).2.1 = x) (hx2 : x ≤ 23) (hf : (dat r).2.2 < 160) :
    ∃ N kd pl p1 r1, P_Parser_begin p = some ((), p1) ∧ R_read r = (bn (R_tellHead r1) fun _ m30 => R_read_146 FU m30) ∧ Pi N kd pl x p1 r1 0 nc (200 * x) (500 * x) ∧ mI r1 1551 0 = 0 ∧ mI r1 1588 0 = nj x ∧ mI p1 785 22 = -1 ∧ mI p1 782 22 = 0 ∧ mI p1 772 22 = nj nc ∧ aI r1 14 x = 0 ∧ Ch BgF [18, 19, 20] nil p p1 ∧ mC p1 = mC p ∧ mS p1 = mS p ∧ Ch BgR [2, 3, 4, 5, 6, 14] nil r r1 ∧ mC r1 = mC r ∧ mS r1 = mS r ∧ (∀ j, j ≠ x → aI r1 14 j = aI r 14 j) ∧ mI r1 1538 0 = 0 := by
  obtain ⟨T, h82, W1, W2, e1, e2, e3, e4, e5, -⟩ := C
  have T1 := T.1
  rw [hx] at e2
  have hn := hT.1
  -- the reference's copy
  have c0 : Cpy n 0 (sI r 1540 0 (mI r 1538 0)) (sI r 1540 0 (mI r 1538 0)) := ⟨Ch.rfl, rfl, rfl, fun j hj => absurd hj (Nat.not_lt_zero j)⟩
  have q40 : mI (sI r 1540 0 (mI r 1538 0)) 1540 0 = nj n := by rw [k_mI_sI_e, up1_ap, if_pos rfl]; exact hT.2.2.1
  obtain ⟨m5, b1, b2, b3, b4, b5⟩ := read32_e hn (by rw [k_mC_sI]; exact h82) q40 n 0 FU _ (by omega) (by unfold FU; omega) c0
  have b1' : R_read_32 FU 0 (sI r 1540 0 (mI r 1538 0)) = R_read_58 m5 := b1
  -- both scan
  have fP : ∀ f, f ∉ BgF → mI (bgP p (mI p 771 22)) f = mI p f := fun f hf => by
    unfold BgF at hf
    simp only [List.mem_cons, List.not_mem_nil, or_false, not_or] at hf
    unfold bgP
    rw [k_mI_sI (by omega), k_mI_sI (by omega), k_mI_sI (by omega), k_mI_sI (by omega), k_mI_sI (by omega), k_mI_sI (by omega), k_mI_sI (by omega), k_mI_sI (by omega), k_mI_sI (by omega)]
  have aP : aI (bgP p (mI p 771 22)) = aI p ∧ aL (bgP p (mI p 771 22)) = aL p ∧ mC (bgP p (mI p 771 22)) = mC p ∧ mS (bgP p (mI p 771 22)) = mS p := by
    unfold bgP
    simp only [k_aI_wI_e, k_aI_wI, k_aI_wL, k_aI_wR, k_aI_sI, k_aI_sL, k_aI_sR, k_aI_nw, k_aL_wL_e, k_aL_wL, k_aL_wI, k_aL_wR, k_aL_sI, k_aL_sL, k_aL_sR, k_aL_nw, k_aR_wR_e, k_aR_wR, k_aR_wI, k_aR_wL, k_aR_sI, k_aR_sL, k_aR_sR, k_aR_nw, k_mI_sI_e, k_mI_sI, k_mI_wI, k_mI_wL, k_mI_wR, k_mI_sL, k_mI_sR, k_mI_nw, k_mL_sL_e, k_mL_sL, k_mL_wI, k_mL_wL, k_mL_wR, k_mL_sI, k_mL_sR, k_mL_nw, k_mR_sR_e, k_mR_sR, k_mR_wI, k_mR_wL, k_mR_wR, k_mR_sI, k_mR_sL, k_mR_nw, k_mT_wI, k_mT_wL, k_mT_wR, k_mT_sI, k_mT_sL, k_mT_sR, k_mT_nw, k_mN_wI, k_mN_wL, k_mN_wR, k_mN_sI, k_mN_sL, k_mN_sR, k_mN_nw, k_mC_wI, k_mC_wL, k_mC_wR, k_mC_sI, k_mC_sL, k_mC_sR, k_mC_nw, k_mS_wI, k_mS_wL, k_mS_wR, k_mS_sI, k_mS_sL, k_mS_sR, k_mS_nw, k_zF_1, k_zF_3, k_zF_11, k_zF_32, k_zF_36, k_zA_1, k_zA_3, k_zA_11, k_zA_32, k_zA_36, k_mT_fil, k_mN_fil, k_mI_fil, k_mL_fil, k_mR_fil, k_aL_fil, k_aR_fil, k_mC_fil, k_mS_fil, k_aI_fil_e, k_aI_fil]
    exact ⟨trivial, trivial, trivial, trivial⟩
  have cP : Ch BgF [18, 19, 20] nil p (bgP p (mI p 771 22)) := by
    unfold bgP
    exact ((((((((Ch.rfl.sI (by decide)).sI (by decide)).sI (by decide)).sI (by decide)).sI (by decide)).sI (by decide)).sI (by decide)).sI (by decide)).sI (by decide)
  have vP : mI (bgP p (mI p 771 22)) 773 22 = 0 ∧ mI (bgP p (mI p 771 22)) 774 22 = -1 ∧ mI (bgP p (mI p 771 22)) 776 22 = 0 ∧ mI (bgP p (mI p 771 22)) 778 22 = -1 ∧ mI (bgP p (mI p 771 22)) 772 22 = mI p 771 22 ∧ mI (bgP p (mI p 771 22)) 779 22 = 0 ∧ mI (bgP p (mI p 771 22)) 782 22 = 0 ∧ mI (bgP p (mI p 771 22)) 785 22 = -1 := by
    unfold bgP
    refine ⟨?_, ?_, ?_, ?_, ?_, ?_, ?_, ?_⟩ <;> simp [k_aI_wI_e, k_aI_wI, k_aI_wL, k_aI_wR, k_aI_sI, k_aI_sL, k_aI_sR, k_aI_nw, k_aL_wL_e, k_aL_wL, k_aL_wI, k_aL_wR, k_aL_sI, k_aL_sL, k_aL_sR, k_aL_nw, k_aR_wR_e, k_aR_wR, k_aR_wI, k_aR_wL, k_aR_sI, k_aR_sL, k_aR_sR, k_aR_nw, k_mI_sI_e, k_mI_sI, k_mI_wI, k_mI_wL, k_mI_wR, k_mI_sL, k_mI_sR, k_mI_nw, k_mL_sL_e, k_mL_sL, k_mL_wI, k_mL_wL, k_mL_wR, k_mL_sI, k_mL_sR, k_mL_nw, k_mR_sR_e, k_mR_sR, k_mR_wI, k_mR_wL, k_mR_wR, k_mR_sI, k_mR_sL, k_mR_nw, k_mT_wI, k_mT_wL, k_mT_wR, k_mT_sI, k_mT_sL, k_mT_sR, k_mT_nw, k_mN_wI, k_mN_wL, k_mN_wR, k_mN_sI, k_mN_sL, k_mN_sR, k_mN_nw, k_mC_wI, k_mC_wL, k_mC_wR, k_mC_sI, k_mC_sL, k_mC_sR, k_mC_nw, k_mS_wI, k_mS_wL, k_mS_wR, k_mS_sI, k_mS_sL, k_mS_sR, k_mS_nw, k_zF_1, k_zF_3, k_zF_11, k_zF_32, k_zF_36, k_zA_1, k_zA_3, k_zA_11, k_zA_32, k_zA_36, k_mT_fil, k_mN_fil, k_mI_fil, k_mL_fil, k_mR_fil, k_aL_fil, k_aR_fil, k_mC_fil, k_mS_fil, k_aI_fil_e, k_aI_fil, up1_ap]
  have eB : P_Parser_begin p = bn (P_Lexer_scan (bgP p (mI p 771 22))) fun _ m20 => some ((), m20) := by
    unfold P_Parser_begin bgP
    simp only [vb_e]
    rw [k_mI_sI (show 771 ≠ 778 by omega), k_mI_sI (show 771 ≠ 777 by omega), k_mI_sI (show 771 ≠ 776 by omega), k_mI_sI (show 771 ≠ 774 by omega), k_mI_sI (show 771 ≠ 773 by omega)]
  have m5r : Ch [1540, 1538] [2] nil r (sI m5 1538 0 0) := Ch.trans ((Ch.rfl.sI (by decide))) ((b2.mono (fun _ h => absurd h List.not_mem_nil) (fun _ h => h) (fun _ h => h)).sI (by decide))
  obtain ⟨N, kd, pl, p2, r2, T', s1, s2, s3, s4, s5, s6, s7, s8, s9, -⟩ := scan_both (p := p) (r := r) (p1 := bgP p (mI p 771 22)) (r1 := sI m5 1538 0 0) hT T1 h82 hk (by rw [fP 641 (by decide)]; exact hT.2.1) (by rw [aP.1]) (by rw [aP.2.1]) aP.2.2.1 (by rw [k_mI_sI (by omega), b2.i (by decide) (by rw [k_mC_sI]; omega)]; exact q40) (fun j hj => by rw [k_aI_sI, b5 j hj, k_aI_sI]) (by rw [m5r.al (by decide) (fun z => z) (by omega)]) (by rw [k_mC_sI, b3, k_mC_sI])
  have cR2 : Ch BgR [2, 3, 4, 5, 6, 14] nil r r2 := Ch.trans (m5r.mono (by decide) (by decide) (fun _ h => h)) (s7.mono (by decide) (by decide) (fun _ h => h))
  have mR2 : mC r2 = mC r ∧ mS r2 = mS r := ⟨by rw [s8, k_mC_sI, b3, k_mC_sI], by rw [s9, k_mS_sI, b4, k_mS_sI]⟩
  have e54 : mI r2 1554 0 = nj x := by rw [cR2.i (by decide) (by omega)]; exact e2
  have e84 : mI r2 1584 0 = nj nc := by rw [cR2.i (by decide) (by omega)]; exact e5
  have e38 : mI r2 1538 0 = 0 := by rw [s7.i (by decide) (by rw [k_mC_sI, b3, k_mC_sI]; omega), k_mI_sI_e, up1_ap, if_pos rfl]
  have a14 : aI r2 14 = aI r 14 := by
    have q1 : aI r2 14 = aI (sI m5 1538 0 0) 14 := s7.ai (by decide) (fun z => z) (by rw [k_mC_sI, b3, k_mC_sI]; omega)
    rw [q1, m5r.ai (by decide) (fun z => z) (by omega)]
  -- the reference's start
  have vR : mI (bgR r2 x (nj nc)) 1547 0 = 0 ∧ mI (bgR r2 x (nj nc)) 1548 0 = 0 ∧ mI (bgR r2 x (nj nc)) 1549 0 = 0 ∧ mI (bgR r2 x (nj nc)) 1551 0 = 0 ∧ mI (bgR r2 x (nj nc)) 1588 0 = nj x ∧ mI (bgR r2 x (nj nc)) 1580 0 = nj (200 * x) ∧ mI (bgR r2 x (nj nc)) 1581 0 = nj (500 * x) ∧ mI (bgR r2 x (nj nc)) 1585 0 = nj nc ∧ mI (bgR r2 x (nj nc)) 1587 0 = -1 := by
    unfold bgR
    refine ⟨?_, ?_, ?_, ?_, ?_, ?_, ?_, ?_, ?_⟩ <;> simp [k_aI_wI_e, k_aI_wI, k_aI_wL, k_aI_wR, k_aI_sI, k_aI_sL, k_aI_sR, k_aI_nw, k_aL_wL_e, k_aL_wL, k_aL_wI, k_aL_wR, k_aL_sI, k_aL_sL, k_aL_sR, k_aL_nw, k_aR_wR_e, k_aR_wR, k_aR_wI, k_aR_wL, k_aR_sI, k_aR_sL, k_aR_sR, k_aR_nw, k_mI_sI_e, k_mI_sI, k_mI_wI, k_mI_wL, k_mI_wR, k_mI_sL, k_mI_sR, k_mI_nw, k_mL_sL_e, k_mL_sL, k_mL_wI, k_mL_wL, k_mL_wR, k_mL_sI, k_mL_sR, k_mL_nw, k_mR_sR_e, k_mR_sR, k_mR_wI, k_mR_wL, k_mR_wR, k_mR_sI, k_mR_sL, k_mR_nw, k_mT_wI, k_mT_wL, k_mT_wR, k_mT_sI, k_mT_sL, k_mT_sR, k_mT_nw, k_mN_wI, k_mN_wL, k_mN_wR, k_mN_sI, k_mN_sL, k_mN_sR, k_mN_nw, k_mC_wI, k_mC_wL, k_mC_wR, k_mC_sI, k_mC_sL, k_mC_sR, k_mC_nw, k_mS_wI, k_mS_wL, k_mS_wR, k_mS_sI, k_mS_sL, k_mS_sR, k_mS_nw, k_zF_1, k_zF_3, k_zF_11, k_zF_32, k_zF_36, k_zA_1, k_zA_3, k_zA_11, k_zA_32, k_zA_36, k_mT_fil, k_mN_fil, k_mI_fil, k_mL_fil, k_mR_fil, k_aL_fil, k_aR_fil, k_mC_fil, k_mS_fil, k_aI_fil_e, k_aI_fil, up1_ap]
  have aR' : (∀ y, y ≠ 14 → aI (bgR r2 x (nj nc)) y = aI r2 y) ∧ aL (bgR r2 x (nj nc)) = aL r2 ∧ mC (bgR r2 x (nj nc)) = mC r2 ∧ mS (bgR r2 x (nj nc)) = mS r2 ∧ aI (bgR r2 x (nj nc)) 14 = up1 (aI r2 14) x 0 := by
    unfold bgR
    refine ⟨fun y hy => ?_, ?_, ?_, ?_, ?_⟩
    · rw [k_aI_sI, k_aI_sI, k_aI_sI, k_aI_sI, k_aI_wI hy, k_aI_sI, k_aI_sI, k_aI_sI, k_aI_sI, k_aI_sI]
    · simp only [k_aI_wI_e, k_aI_wI, k_aI_wL, k_aI_wR, k_aI_sI, k_aI_sL, k_aI_sR, k_aI_nw, k_aL_wL_e, k_aL_wL, k_aL_wI, k_aL_wR, k_aL_sI, k_aL_sL, k_aL_sR, k_aL_nw, k_aR_wR_e, k_aR_wR, k_aR_wI, k_aR_wL, k_aR_sI, k_aR_sL, k_aR_sR, k_aR_nw, k_mI_sI_e, k_mI_sI, k_mI_wI, k_mI_wL, k_mI_wR, k_mI_sL, k_mI_sR, k_mI_nw, k_mL_sL_e, k_mL_sL, k_mL_wI, k_mL_wL, k_mL_wR, k_mL_sI, k_mL_sR, k_mL_nw, k_mR_sR_e, k_mR_sR, k_mR_wI, k_mR_wL, k_mR_wR, k_mR_sI, k_mR_sL, k_mR_nw, k_mT_wI, k_mT_wL, k_mT_wR, k_mT_sI, k_mT_sL, k_mT_sR, k_mT_nw, k_mN_wI, k_mN_wL, k_mN_wR, k_mN_sI, k_mN_sL, k_mN_sR, k_mN_nw, k_mC_wI, k_mC_wL, k_mC_wR, k_mC_sI, k_mC_sL, k_mC_sR, k_mC_nw, k_mS_wI, k_mS_wL, k_mS_wR, k_mS_sI, k_mS_sL, k_mS_sR, k_mS_nw, k_zF_1, k_zF_3, k_zF_11, k_zF_32, k_zF_36, k_zA_1, k_zA_3, k_zA_11, k_zA_32, k_zA_36, k_mT_fil, k_mN_fil, k_mI_fil, k_mL_fil, k_mR_fil, k_aL_fil, k_aR_fil, k_mC_fil, k_mS_fil, k_aI_fil_e, k_aI_fil]
    · simp only [k_aI_wI_e, k_aI_wI, k_aI_wL, k_aI_wR, k_aI_sI, k_aI_sL, k_aI_sR, k_aI_nw, k_aL_wL_e, k_aL_wL, k_aL_wI, k_aL_wR, k_aL_sI, k_aL_sL, k_aL_sR, k_aL_nw, k_aR_wR_e, k_aR_wR, k_aR_wI, k_aR_wL, k_aR_sI, k_aR_sL, k_aR_sR, k_aR_nw, k_mI_sI_e, k_mI_sI, k_mI_wI, k_mI_wL, k_mI_wR, k_mI_sL, k_mI_sR, k_mI_nw, k_mL_sL_e, k_mL_sL, k_mL_wI, k_mL_wL, k_mL_wR, k_mL_sI, k_mL_sR, k_mL_nw, k_mR_sR_e, k_mR_sR, k_mR_wI, k_mR_wL, k_mR_wR, k_mR_sI, k_mR_sL, k_mR_nw, k_mT_wI, k_mT_wL, k_mT_wR, k_mT_sI, k_mT_sL, k_mT_sR, k_mT_nw, k_mN_wI, k_mN_wL, k_mN_wR, k_mN_sI, k_mN_sL, k_mN_sR, k_mN_nw, k_mC_wI, k_mC_wL, k_mC_wR, k_mC_sI, k_mC_sL, k_mC_sR, k_mC_nw, k_mS_wI, k_mS_wL, k_mS_wR, k_mS_sI, k_mS_sL, k_mS_sR, k_mS_nw, k_zF_1, k_zF_3, k_zF_11, k_zF_32, k_zF_36, k_zA_1, k_zA_3, k_zA_11, k_zA_32, k_zA_36, k_mT_fil, k_mN_fil, k_mI_fil, k_mL_fil, k_mR_fil, k_aL_fil, k_aR_fil, k_mC_fil, k_mS_fil, k_aI_fil_e, k_aI_fil]
    · simp only [k_aI_wI_e, k_aI_wI, k_aI_wL, k_aI_wR, k_aI_sI, k_aI_sL, k_aI_sR, k_aI_nw, k_aL_wL_e, k_aL_wL, k_aL_wI, k_aL_wR, k_aL_sI, k_aL_sL, k_aL_sR, k_aL_nw, k_aR_wR_e, k_aR_wR, k_aR_wI, k_aR_wL, k_aR_sI, k_aR_sL, k_aR_sR, k_aR_nw, k_mI_sI_e, k_mI_sI, k_mI_wI, k_mI_wL, k_mI_wR, k_mI_sL, k_mI_sR, k_mI_nw, k_mL_sL_e, k_mL_sL, k_mL_wI, k_mL_wL, k_mL_wR, k_mL_sI, k_mL_sR, k_mL_nw, k_mR_sR_e, k_mR_sR, k_mR_wI, k_mR_wL, k_mR_wR, k_mR_sI, k_mR_sL, k_mR_nw, k_mT_wI, k_mT_wL, k_mT_wR, k_mT_sI, k_mT_sL, k_mT_sR, k_mT_nw, k_mN_wI, k_mN_wL, k_mN_wR, k_mN_sI, k_mN_sL, k_mN_sR, k_mN_nw, k_mC_wI, k_mC_wL, k_mC_wR, k_mC_sI, k_mC_sL, k_mC_sR, k_mC_nw, k_mS_wI, k_mS_wL, k_mS_wR, k_mS_sI, k_mS_sL, k_mS_sR, k_mS_nw, k_zF_1, k_zF_3, k_zF_11, k_zF_32, k_zF_36, k_zA_1, k_zA_3, k_zA_11, k_zA_32, k_zA_36, k_mT_fil, k_mN_fil, k_mI_fil, k_mL_fil, k_mR_fil, k_aL_fil, k_aR_fil, k_mC_fil, k_mS_fil, k_aI_fil_e, k_aI_fil]
    · rw [k_aI_sI, k_aI_sI, k_aI_sI, k_aI_sI, k_aI_wI_e, k_aI_sI, k_aI_sI, k_aI_sI, k_aI_sI, k_aI_sI]
  have cR : Ch BgR [2, 3, 4, 5, 6, 14] nil r (bgR r2 x (nj nc)) := by
    unfold bgR
    exact (((((((((cR2.sI (by decide)).sI (by decide)).sI (by decide)).sI (by decide)).sI (by decide)).wI (Or.inl (by decide))).sI (by decide)).sI (by decide)).sI (by decide)).sI (by decide)
  have v38 : mI (bgR r2 x (nj nc)) 1538 0 = 0 := by
    unfold bgR
    rw [k_mI_sI (by omega), k_mI_sI (by omega), k_mI_sI (by omega), k_mI_sI (by omega), k_mI_wI, k_mI_sI (by omega), k_mI_sI (by omega), k_mI_sI (by omega), k_mI_sI (by omega), k_mI_sI (by omega)]; exact e38
  have eR : R_read r = (bn (R_tellHead (bgR r2 x (nj nc))) fun _ m30 => R_read_146 FU m30) := by
    have k200 : (200 : Int32) * nj x = nj (200 * x) := nj_l_mul x 200
    have k500 : (500 : Int32) * nj x = nj (500 * x) := nj_l_mul x 500
    unfold R_read
    rw [e1, e2, if_neg (by rw [nj_eq_l (by omega) (by omega)]; omega), if_neg (by rw [nj_eq_l (by omega) (by omega)]; omega), vb_e, b1']
    have q1 : mI (sI (sI (sI (sI r2 1547 0 0) 1548 0 0) 1549 0 0) 1551 0 0) 1554 0 = nj x := by
      rw [k_mI_sI (by omega), k_mI_sI (by omega), k_mI_sI (by omega), k_mI_sI (by omega)]; exact e54
    have q2 : mI (sI (sI (sI (sI r2 1547 0 0) 1548 0 0) 1549 0 0) 1551 0 0) 1584 0 = nj nc := by
      rw [k_mI_sI (by omega), k_mI_sI (by omega), k_mI_sI (by omega), k_mI_sI (by omega)]; exact e84
    unfold R_read_58 bgR
    rw [vb_e, s2, bn_s, vb_e, vb_e, vb_e, vb_e]
    generalize sI (sI (sI (sI r2 1547 0 0) 1548 0 0) 1549 0 0) 1551 0 0 = qq at q1 q2 ⊢
    have u1 : mI (sI qq 1588 0 (nj x)) 1588 0 = nj x := by rw [k_mI_sI_e, up1_ap, if_pos rfl]
    have u2 : mI (sI qq 1588 0 (nj x)) 1584 0 = nj nc := by rw [k_mI_sI (by omega)]; exact q2
    rw [vb_e, q1]
    generalize sI qq 1588 0 (nj x) = q3 at u1 u2 ⊢
    rw [u1, inb_nj (by omega), gd_t (decide_eq_true (by omega)), vb_e, ix_nj (by omega), vb_e, k_mI_wI, u1, k200, vb_e, k_mI_sI (by omega), k_mI_wI, u1, k500, vb_e, k_mI_sI (by omega), k_mI_sI (by omega), k_mI_wI, u2, vb_e]
  have cp1 : Ch BgF [18, 19, 20] nil p p2 := Ch.trans cP (s4.mono (by decide) (fun _ h => h) (fun _ h => h))
  have g2 : ∀ f, f ≠ 646 → mI p2 f 22 = mI (bgP p (mI p 771 22)) f 22 := fun f hf => s4.i (by simp only [List.mem_cons, List.not_mem_nil, or_false]; omega) (by rw [aP.2.2.1]; omega)
  refine ⟨N, kd, pl, p2, bgR r2 x (nj nc), by rw [eB, s1, bn_s], eR, ⟨⟨s3.keep rfl rfl rfl (aR'.1 3 (by omega)) (aR'.1 4 (by omega)) (aR'.1 5 (by omega)) (by rw [aR'.2.1]), by have := s3.1; omega, by rw [g2 779 (by omega)]; exact vP.2.2.2.2.2.1, vR.1, vR.2.2.1, vR.2.1, by rw [g2 773 (by omega)]; exact vP.1, by rw [g2 774 (by omega)]; exact vP.2.1, T.Ch cp1, by rw [aR'.2.2.1, mR2.1]; exact h82, by rw [cp1.t (by omega)]; exact (hP.2.1 2 (2, 32, 500) rfl).1, by rw [cp1.n (by omega)]; exact (hP.2.1 2 (2, 32, 500) rfl).2 (by decide)⟩, ⟨by rw [g2 776 (by omega), vP.2.2.1, vR.2.2.2.1], fun w => absurd vR.2.2.2.1 w⟩, ⟨by omega, vR.2.2.2.2.2.2.2.1, by rw [g2 771 (by omega), fP 771 (by decide), e4, Nat.min_eq_left e3], fun k hk => ?_, fun _ => ⟨vR.2.2.2.2.2.2.2.2, by rw [g2 778 (by omega)]; exact vP.2.2.2.1⟩, (fun w => by omega)⟩, vR.2.2.2.2.2.1, Nat.le_refl _, by omega, vR.2.2.2.2.2.2.1, Nat.le_refl _, by omega, hx2⟩, vR.2.2.2.1, vR.2.2.2.2.1, by rw [g2 785 (by omega)]; exact vP.2.2.2.2.2.2.2, by rw [g2 782 (by omega)]; exact vP.2.2.2.2.2.2.1, by rw [g2 772 (by omega), vP.2.2.2.2.1]; exact e4, by rw [aR'.2.2.2.2, up1_ap, if_pos rfl], cp1, by rw [s5]; exact aP.2.2.1, by rw [s6]; exact aP.2.2.2, cR, by rw [aR'.2.2.1]; exact mR2.1, by rw [aR'.2.2.2.1]; exact mR2.2, fun j hj => by rw [aR'.2.2.2.2, up1_ap, if_neg hj, a14], v38⟩
  rw [cp1.al (by decide) (fun z => z) (by omega), cR.al (by decide) (fun z => z) (by omega)]
  exact hN k (by omega)
