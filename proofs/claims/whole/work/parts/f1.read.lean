/-! Layer C: read, both sides -/
def ReF : List Nat := RpF ++ [266, 267, 641, 1415, 514, 515, 771, 773, 774]
def ReA : List Nat := [18, 19, 20, 2, 3, 23, 24, 14, 15]
def RzF : List Nat := RrF ++ [1553, 1551, 1552, 1584, 1554, 1601, 1612, 1627]
def RzA : List Nat := RrA ++ [12, 13, 44, 45, 46, 47, 48]
/-- what read leaves -/
def RdO (nc : Nat) (p r : Mem) (x y : Option (Int32 × Mem)) : Prop := ∃ v p' r' nc', x = some (v, p') ∧ y = some (v, r') ∧ Core nc' p' r' ∧ WItems (dat r') nc' ∧ Tp p' r' ∧ (∀ k, k < nc' → Nm2 (aL p' 23 k) (aL r' 35 k)) ∧ mI p' 1415 0 = mI r' 1553 0 ∧ (dat r' = dat r ∧ nc' = nc ∧ Ch (RrF ++ [1553, 1551, 1552]) RrA nil r r' ∨ mI r' 1612 0 = -1 ∧ mI r' 1627 0 = -1) ∧ ((Ch ReF ReA nil p p' ∧ Ch RzF RzA nil r r') ∧ mC p' ≤ mC p + 158 ∧ mS p' ≤ mS p + 1300 ∧ mC r' = mC r ∧ mS r' = mS r)
section Rd
variable {p r b m : Mem} {nc x n : Nat}
theorem tp_0 {p r : Mem} (h1 : mI p 641 16 = 0) (h2 : mI r 1538 0 = 0) : Tp p r := ⟨0, by omega, h1, h2, fun i hi => absurd hi (Nat.not_lt_zero i)⟩
theorem read_bad {w : Int32} (C : Core nc p r) (Wi : WItems (dat r) nc) (hx : (dat r).2.1 = x) (Rp : Rdp p b) (Rr : Rdr x r m) (B : Bd nc w b m) (n0 : ∀ k, k < nc → Nm2 (aL p 23 k) (aL r 35 k)) (n1 : ∀ k, k < nc → aL b 23 k = aL p 23 k) (n2 : ∀ k, k < nc → aL m 35 k = aL r 35 k) (h38 : mI m 1538 0 = 0) (hc : mC b ≤ mC p + 150) (hs : mS b ≤ mS p + 900) {X Y : Option (Int32 × Mem)} (hX : X = P_read_60 w b) (hY : Y = R_read_168 m) : RdO nc p r X Y := by
  obtain ⟨v, p', r', a1, a2, a3, a4, a5, a6, a7, a8, a9, a10, a11⟩ := B
  obtain ⟨C', d'⟩ := core_bad C hx Rp Rr a3 a6 a9 a10
  have cp := Rp.ch
  obtain ⟨cr, m1, m2⟩ := Rr.ch
  have T1 := C.1.1
  have h82 := C.2.1
  have Tb := (C.1.Ch cp).1
  refine ⟨v, p', r', nc, hX.trans a1, hY.trans a2, C', by rw [d']; exact Wi, tp_0 a7 (by rw [a9.i (by decide) (by omega)]; exact h38), fun k hk => ?_, a8, Or.inl ⟨d', rfl, Ch.trans (cr.mono (by decide) (fun _ w => w) (fun _ w => w)) (a9.mono (by decide) (fun _ w => absurd w List.not_mem_nil) (fun _ w => w))⟩, ⟨⟨Ch.trans (cp.mono (by decide) (by decide) (fun _ w => w)) (a3.mono (by decide) (by decide) (fun _ w => w)), Ch.trans (cr.mono (by decide) (by decide) (fun _ w => w)) (a9.mono (by decide) (by decide) (fun _ w => w))⟩, by omega, by omega, by omega, by omega⟩⟩
  rw [a3.al List.not_mem_nil (fun w => w) (by omega), a9.al List.not_mem_nil (fun w => w) (by omega), n1 k hk, n2 k hk]
  exact n0 k hk
theorem FU_s : FU = 99999 + 1 := rfl
theorem st_read (C : Core nc p r) (Wi : WItems (dat r) nc) (hP : PL p) (hT : TpN p r n) (hk : KyOk (aL p 21) (aL r 7)) (hN : ∀ k, k < nc → Nm2 (aL p 23 k) (aL r 35 k)) (hw0 : 0 ≤ mI p 1157 25) (h15 : mI p 1415 0 = mI r 1553 0) : RdO nc p r (P_read p) (R_read r) := by
  have h514 := C.fc
  have h515 := C.tc
  have h601 := C.rfc
  obtain ⟨T, h82, W, Wf, e1, e2, hn60, e4, e5, fa, ta, ia, sa, ca, od, L, hSc⟩ := id C
  have T1 := T.1
  have b24 := W.1
  have b160 := W.2.1
  by_cases q1 : (dat r).2.2 = 160
  · refine ⟨-2, p, r, nc, ?_, ?_, C, Wi, ⟨n, hT⟩, hN, h15, Or.inl ⟨rfl, rfl, Ch.rfl⟩, ⟨⟨Ch.rfl, Ch.rfl⟩, by omega, by omega, rfl, rfl⟩⟩
    · unfold P_read
      rw [h514, if_pos (by rw [nj_l_le (by omega) (by omega)]; omega)]
    · unfold R_read
      rw [h601, if_pos (by rw [nj_eq_l (by omega) (by omega)]; exact q1)]
  · by_cases q2 : (dat r).2.1 = 24
    · refine ⟨-2, p, r, nc, ?_, ?_, C, Wi, ⟨n, hT⟩, hN, h15, Or.inl ⟨rfl, rfl, Ch.rfl⟩, ⟨⟨Ch.rfl, Ch.rfl⟩, by omega, by omega, rfl, rfl⟩⟩
      · unfold P_read
        rw [h514, if_neg (by rw [nj_l_le (by omega) (by omega)]; omega), h515, if_neg (by rw [nj_lt_l (by omega) (by omega)]; omega)]
      · unfold R_read
        rw [h601, if_neg (by rw [nj_eq_l (by omega) (by omega)]; exact q1), e2, if_pos (by rw [nj_eq_l (by omega) (by omega)]; exact q2)]
    · obtain ⟨x, hx⟩ : ∃ x, (dat r).2.1 = x := ⟨_, rfl⟩
      obtain ⟨fc, hfc⟩ : ∃ fc, (dat r).2.2 = fc := ⟨_, rfl⟩
      have hx2 : x ≤ 23 := by omega
      obtain ⟨N, kd, pl, p1, r1, s1, s2, s3, s4, s5, s6, s7, s8, s9, s10, s11, s12, s13, s14, s15, s16, s17⟩ := start_j C hP hT hk hN hx hx2 (by omega)
      have Tp1 := T.Ch s10
      have eP : P_read p = bn (P_Parser_takeHead p1) fun r7 m8 => if r7 = 0 then P_read_59 m8 else bn (P_Parser_takeItems m8) fun r12 m13 => if r12 = 0 then P_read_59 m13 else P_read_60 1 m13 := by
        unfold P_read
        rw [h514, if_neg (by rw [nj_l_le (by omega) (by omega)]; omega), h515, if_pos (by rw [nj_lt_l (by omega) (by omega)]; omega), s1, bn_s]
      rw [hx] at e2
      have h54 : mI r1 1554 0 = nj x := by rw [s13.i (by decide) (by omega)]; exact e2
      have L1 : Lk fa ta ia sa ca od p1 (dat r) := L.Ch T (s10.mono (fun _ w => w) (fun _ w => w) (fun _ w => w.elim)) (by decide) (by decide)
      have hm : ∀ k, k < x → aI r1 8 k = (dat r).1 8 k ∧ aI r1 9 k = (dat r).1 9 k := fun k hk => by
        rw [dat_at e2 (by omega) (msk_t (by omega) (by omega) hk), dat_at e2 (by omega) (msk_t (by omega) (by omega) hk), s13.ai (by decide) (fun w => w) (by omega), s13.ai (by decide) (fun w => w) (by omega)]
        exact ⟨rfl, rfl⟩
      have nP : ∀ k, k < nc → aL p1 23 k = aL p 23 k := fun k _ => by rw [s10.al (by decide) (fun w => w) (by omega)]
      have nR : ∀ k, k < nc → aL r1 35 k = aL r 35 k := fun k _ => by rw [s13.al (by decide) (fun w => w) (by omega)]
      have hR1 : (Ch BgR [2, 3, 4, 5, 6, 14] nil r r1 ∧ mC r1 = mC r ∧ mS r1 = mS r ∧ ∀ j, j ≠ x → aI r1 14 j = aI r 14 j) := ⟨s13, s14, s15, s16⟩
      rw [eP, s2]
      rcases head_j s3 hn60 s4 s5 h54 s6 L1 W hx hm with ⟨s0, v, p2, r2, t2, nm2, h1, h2, h3, h4, h5, h6, h7, h8, h9, h10, h11⟩ | ⟨p2, r2, h1, h2, h3, h4⟩
      · obtain ⟨z1, z2, z3, z4, z5, z6⟩ := h5
        have hC1 : mC r2 = mC r := by rw [z4.2.1]; exact s14
        have hlp0 : Lp N kd pl x fc s0 (mC p) 0 p2 r2 t2 nm2 (200 * x) (500 * x) (fun _ => 0) (fun _ => 0) (fun _ => 0) := by
          refine ⟨h3, h4, by omega, ?_, ?_, h7, h10.2.1, h10.1, ?_, ?_, by omega, fun j hj => absurd hj (Nat.not_lt_zero j), fun j _ hj => absurd hj (Nat.not_lt_zero j)⟩
          · rw [z4.1.i (by decide) (by omega)]; exact s5
          · rw [z4.1.ai (by decide) (fun w => w) (by omega)]; exact s9
          · rw [z1.1.i (by decide) (by omega), s10.i (by decide) (by omega), h514, hfc]
          · rw [h11]; exact s7
        have eI : P_Parser_takeItems p2 = P_Parser_takeItems_2 FU (nj 0) p2 := rfl
        rw [h1, bn_s, if_neg (show ¬ (1 : Int32) = 0 by decide), h2, bn_s, eI]
        rcases items_j 30 0 p2 r2 t2 nm2 (200 * x) (500 * x) _ _ _ FU FU (by omega) hlp0 (by unfold FU; omega) (by unfold FU; omega) with ⟨k, p3, r3, t3, nm3, l3, c3, it, sA, cA, a1, a2, a3, a4⟩ | ⟨p3, r3, a1, a2, a3⟩
        · rw [a1, bn_s, if_neg (show ¬ (1 : Int32) = 0 by decide), a2]
          obtain ⟨b1, b2, b3, b4, b5, b6, b7, b8, b9, b10⟩ := a4
          have b2' : Kir (30 * x) (200 * x) (500 * x) r2 r3 := b2
          have K23 : Kiz p2 p3 := b1.kiz ⟨Ch.rfl, fun _ _ _ _ _ => ⟨rfl, rfl, rfl⟩⟩
          have Rp : Rdp p p3 := ⟨p1, s10, z1.trans K23⟩
          have Rr : Rdr x r r3 := ⟨r1, r2, hR1, z4, b2'⟩
          have hPi := a3.1
          have hT3 := hPi.tN
          have n1 : ∀ k, k < nc → aL p3 23 k = aL p 23 k := fun k hk => by rw [b8 k (by omega), z5 k (by omega)]; exact nP k hk
          have n2 : ∀ k, k < nc → aL r3 35 k = aL r 35 k := fun k hk => by rw [b9 k (by omega), z6 k hk]; exact nR k hk
          have h38 : mI r3 1538 0 = 0 := by rw [b2'.1.i (by decide) (by omega), z4.1.i (by decide) (by omega)]; exact s17
          have hc3 : mC p3 ≤ mC p + 150 := by omega
          have hs3 : mS p3 ≤ mS p + 900 := by omega
          have h772 : mI p3 772 22 = nj nc := by rw [b1.1.i (by decide) (by omega), z1.1.i (by decide) (by omega)]; exact s8
          have h49 : mI r3 1549 0 = 0 := hPi.1.2.2.2.2.1
          have hC3 : mC r3 = mC r := by rw [b2'.2.1]; exact hC1
          by_cases w1 : mI r3 1551 0 = 0
          · by_cases w2 : nm3 ≤ 60
            · obtain ⟨p', r', g1, g2, g3, g4, g5, g6, g7, g8, g9, g10, g11, g12, g13, g14, g15⟩ := read_good C Wi hw0 hx hfc hx2 (by omega) Rp Rr (by omega) w2 a3 (show v < nm3 by omega) (h10.mv (fun f f1 f2 => b1.1.i (by unfold KpF ItF; simp only [List.mem_cons, List.not_mem_nil, or_false]; omega) (by omega)) (fun y y1 y2 => b2'.1.ai (by unfold RiA; simp only [List.mem_cons, List.not_mem_nil, or_false]; omega) (fun w => w) (by omega)) b10) w1
              have cp := Rp.ch
              obtain ⟨cr, m1, m2⟩ := Rr.ch
              refine ⟨0, p', r', nm3, g1, g2, g3, g4, tp_0 g5 (by rw [g13.i (by decide) (by omega)]; exact h38), fun k hk => ?_, by rw [g6, g7], Or.inr ⟨g8, g9⟩, ⟨⟨Ch.trans (cp.mono (by decide) (by decide) (fun _ w => w)) (g10.mono (by decide) (by decide) (fun _ w => w)), Ch.trans (cr.mono (by decide) (by decide) (fun _ w => w)) (g13.mono (by decide) (by decide) (fun _ w => w))⟩, by omega, by omega, by omega, by omega⟩⟩
              rw [g10.al (by decide) (fun w => w) (by omega), g13.al (by decide) (fun w => w) (by omega)]
              exact hPi.2.2.1.2.2.2.1 k (by omega)
            · obtain ⟨k, k1, k2, k3⟩ := hPi.2.2.1.2.2.2.2.2 (by omega)
              have tk := hPi.1.1.2.2.2.2 k (by omega)
              exact read_bad C Wi hx Rp Rr (bad_full h772 h49 w1 (by rw [hPi.2.1.1]; exact w1) k3 tk.2.1 k2 (by omega) tk.2.2.2.2.2.1) hN n1 n2 h38 hc3 hs3 rfl rfl
          · obtain ⟨k1, q, k2, ⟨k3, k4⟩, k5⟩ := hPi.2.1.2 w1
            exact read_bad C Wi hx Rp Rr (bad_late h772 h49 w1 k4 hPi.2.1.1 k1) hN n1 n2 h38 hc3 hs3 rfl rfl
        · rw [a1, bn_s, if_pos rfl, a2]
          obtain ⟨b1, b2, b3, b4, b5, b6, b7, b8⟩ := a3
          have b6' : Kir (30 * x) (200 * x) (500 * x) r2 r3 := b6
          refine read_bad C Wi hx ⟨p1, s10, z1.trans b2⟩ ⟨r1, r2, hR1, z4, b6'⟩ (bad_fld b1 ?_) hN (fun k hk => ?_) (fun k hk => ?_) ?_ (by omega) (by omega) rfl rfl
          · rw [b2.1.i (by decide) (by omega), z1.1.i (by decide) (by omega)]; exact s8
          · rw [b7 k (by omega), z5 k (by omega)]; exact nP k hk
          · rw [b8 k (by omega), z6 k hk]; exact nR k hk
          · rw [b6'.1.i (by decide) (by omega), z4.1.i (by decide) (by omega)]; exact s17
      · obtain ⟨z1, z2, z3, z4, z5, z6⟩ := h4
        have hC1 : mC r2 = mC r := by rw [z4.2.1]; exact s14
        have e146 : R_read_146 FU r2 = R_read_168 r2 := by
          obtain ⟨c, q, -, -, hf⟩ := id h3
          rw [FU_s, R_read_146.eq_2, if_neg hf.ne.1]
        rw [h1, bn_s, if_pos rfl, h2, bn_s, e146]
        refine read_bad C Wi hx ⟨p1, s10, z1⟩ ⟨r1, r2, hR1, z4, Kir.rfl⟩ (bad_fld h3 ?_) hN (fun k hk => ?_) (fun k hk => ?_) ?_ (by omega) (by omega) rfl rfl
        · rw [z1.1.i (by decide) (by omega)]; exact s8
        · rw [z5 k (by omega)]; exact nP k hk
        · rw [z6 k hk]; exact nR k hk
        · rw [z4.1.i (by decide) (by omega)]; exact s17
end Rd
