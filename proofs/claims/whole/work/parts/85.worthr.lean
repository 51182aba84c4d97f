/-! Layer C: what a HALF is worth; in the reference -/
def CtR (D : Dt) (S : WSt) (r : Mem) : Prop := mI r 1643 0 = nj S.2.2.length ∧ ∀ i c, S.2.2[i]? = some c → aI r 71 i = nj c ∧ aI r 70 i = D.1 16 c
section Wr
variable {r : Mem} {D : Dt} {nc : Nat} {X : Dy} {sup : Sup} {who : Nat} {vs : Nat → Int32} {tk : Int32}
theorem dat_26 (hD : dat r = D) {c : Nat} (hc : c < 120 * D.2.1) : aI r 26 c = D.1 26 c := by
  subst hD
  have : msk (ix (mI r 1554 0)) 26 c = true := by
    have : (dat r).2.1 = ix (mI r 1554 0) := rfl
    unfold msk
    grind
  show _ = (if msk (ix (mI r 1554 0)) 26 c = true then aI r 26 c else 0)
  rw [if_pos this]
theorem R_isBarred_12_e (hD : dat r = D) (h24 : D.2.1 ≤ 24) {c i N : Nat} (hc : c < 30 * D.2.1) (hN : N ≤ 4) (h25 : D.1 25 c = nj N) (hi : i < 64) (h71 : aI r 71 i = nj c) {nm : Int32} (k2 : Int32 → Int32 → Mem → Option (Int32 × Mem)) : ∀ (e b fu : Nat), b + e = N → e < fu → R_isBarred_12 k2 fu nm (nj i) (nj b) r = if (List.range' b e).any (fun b => decide (D.1 26 (4 * c + b) = nm)) = true then some (1, r) else k2 nm (nj (i + 1)) r
  | 0, b, fu + 1, he, _ => by
    rw [R_isBarred_12.eq_2, inb_nj (by omega), gd_t (decide_eq_true hi), ix_nj (by omega), h71, inb_nj (by omega), gd_t (decide_eq_true (by omega)), ix_nj (by omega), dat_15 hD (x := 25) (by omega) hc, h25, if_pos (by rw [nj_le (by omega) (by omega)]; omega)]
    unfold R_isBarred_54
    rw [vb_e, nj_add_l]
    rfl
  | e + 1, b, fu + 1, he, hf => by
    have ih := R_isBarred_12_e hD h24 hc hN h25 hi h71 (nm := nm) k2 e (b + 1) fu (by omega) (by omega)
    have e4 : 4 * nj c + nj b = nj (4 * c + b) := by rw [show (4 : Int32) = nj 4 from rfl, nj_mul, nj_add]
    rw [R_isBarred_12.eq_2, inb_nj (by omega), gd_t (decide_eq_true hi), ix_nj (show i < 2147483648 by omega), h71, inb_nj (by omega), gd_t (decide_eq_true (by omega)), ix_nj (show c < 2147483648 by omega), dat_15 hD (x := 25) (by omega) hc, h25, if_neg (by rw [nj_le (by omega) (by omega)]; omega), gd_t (decide_eq_true hi), e4, inb_nj (by omega), gd_t (decide_eq_true (by omega)), ix_nj (by omega), dat_26 hD (by omega), vb_e, nj_add_l, ih, List.range'_succ, List.any_cons]
    by_cases q : D.1 26 (4 * c + b) = nm
    · rw [if_pos q, decide_eq_true q, Bool.true_or, if_pos rfl]
    · rw [if_neg q, decide_eq_false q, Bool.false_or]
theorem R_isBarred_e (hD : dat r = D) (W : WText D nc) (Wi : WItems D nc) {L : List Nat} (hL : ∀ c, c ∈ L → isI D c ∧ (D.1 15 c = 4 ∨ D.1 15 c = 5)) (h64 : L.length ≤ 60) (h43 : mI r 1643 0 = nj L.length) (h71 : ∀ i c, L[i]? = some c → aI r 71 i = nj c) (nm : Int32) : R_isBarred nm r = some (tI (barS D L nm), r) := by
  have h24 := W.1
  have main : ∀ (e i fu : Nat), i + e = L.length → e < fu → R_isBarred_2 fu nm (nj i) r = some (tI (barS D (L.drop i) nm), r) := by
    intro e
    induction e with
    | zero =>
      intro i fu he hf
      obtain ⟨fu, rfl⟩ : ∃ f, fu = f + 1 := ⟨fu - 1, by omega⟩
      rw [R_isBarred_2.eq_2, h43, if_pos (by rw [nj_le (by omega) (by omega)]; omega), List.drop_of_length_le (by omega)]
      rfl
    | succ e ih =>
      intro i fu he hf
      obtain ⟨fu, rfl⟩ : ∃ f, fu = f + 1 := ⟨fu - 1, by omega⟩
      obtain ⟨c, hc⟩ : ∃ q, L[i]? = some q := ⟨L[i]'(by omega), List.getElem?_eq_getElem (by omega)⟩
      have hdr : L.drop i = c :: L.drop (i + 1) := by
        rw [List.drop_eq_getElem_cons (show i < L.length by omega)]
        rw [List.getElem?_eq_getElem (show i < L.length by omega)] at hc
        rw [Option.some.inj hc]
      obtain ⟨hI, h45⟩ := hL c (List.mem_of_getElem? hc)
      obtain ⟨y1, y2, y3⟩ := isI_30 W hI
      obtain ⟨k, j, hk, hj, rfl⟩ := hI
      obtain ⟨s, s1, s2, -, -, -, -, -, -, -, -, -, s12⟩ := Wi k j hk hj
      have hs : s = 4 ∨ s = 5 := by
        rcases h45 with z | z
        · exact Or.inl ((nj_inj (b := 4) (by omega) (by omega)).mp (s2.symm.trans z))
        · exact Or.inr ((nj_inj (b := 5) (by omega) (by omega)).mp (s2.symm.trans z))
      obtain ⟨N, hN, e25, -⟩ := s12 hs
      rw [R_isBarred_2.eq_2, h43, if_neg (by rw [nj_le (by omega) (by omega)]; omega)]
      have hin := R_isBarred_12_e hD h24 (c := 30 * k + j) (i := i) (by omega) hN e25 (by omega) (h71 i _ hc) (nm := nm) (fun z0 z1 z2 => R_isBarred_2 fu z0 z1 z2) N 0 FU (by omega) (by unfold FU; omega)
      refine Eq.trans hin ?_
      have hb : barS D (L.drop i) nm = ((List.range' 0 N).any (fun b => decide (D.1 26 (4 * (30 * k + j) + b) = nm)) || barS D (L.drop (i + 1)) nm) := by
        rw [hdr]
        unfold barS
        rw [List.any_cons, e25, ix_nj (by omega), List.range_eq_range']
      rw [hb, ih (i + 1) fu (by omega) (by omega)]
      cases (List.range' 0 N).any (fun b => decide (D.1 26 (4 * (30 * k + j) + b) = nm)) with
      | true => rw [if_pos rfl, Bool.true_or]; rfl
      | false => rw [if_neg (by decide), Bool.false_or]
  have := main L.length 0 FU (by omega) (by unfold FU; omega)
  rw [List.drop_zero] at this
  exact this
theorem HoR_Ch3 {F A : List Nat} {r' : Mem} (h : HoR r D vs tk) (c : Ch F A nil r r') (hC : mC r' = mC r) (hF : (F.all fun f => f != 1554 && f != 1601 && f != 1611) = true) (hA : (A.all fun a => a == 51 || 58 < a) = true) : HoR r' D vs tk := by
  obtain ⟨h1, h2, h3, h4⟩ := h
  have hF1 : (F.all fun f => f != 1554 && f != 1601) = true := by
    rw [List.all_eq_true]
    intro f q
    have := List.all_eq_true.mp hF f q
    simp at this ⊢
    omega
  have hA1 : (A.all fun a => a < 8 || a == 35 || a == 36 || (38 < a && a < 43) || 49 < a) = true := by
    rw [List.all_eq_true]
    intro f q
    have := List.all_eq_true.mp hA f q
    simp at this ⊢
    omega
  refine ⟨(dat_Ch c h2 hF1 hA1).trans h1, by omega, fun j hj => ?_, ?_⟩
  · rw [c.ai (fun q => by
      have := List.all_eq_true.mp hA 50 q
      simp at this) nil_no (by omega)]; exact h3 j hj
  · rw [c.i (fun q => by
      have := List.all_eq_true.mp hF 1611 q
      simp at this) (by omega)]; exact h4
theorem R_worthBy_87_e (W : WText D nc) (Wi : WItems D nc) (hn60 : nc ≤ 60) (hd : xd X < 140) {k : Nat} (hk : k < D.2.1) : ∀ (e j fu : Nat) (r : Mem), j + e = (rowQ D X k).length → e < fu → RX D X who r → HoR r D vs tk → CtR D (wFd D vs tk ((rowQ D X k).take j)) r →
    ∃ r', R_worthBy_87 fu (nj k) (wFd D vs tk ((rowQ D X k).take j)).1 (wFd D vs tk ((rowQ D X k).take j)).2.1 (nj (64 * k + j)) r = R_worthBy_255 (wFd D vs tk (rowQ D X k)).1 (wFd D vs tk (rowQ D X k)).2.1 r' ∧ CtR D (wFd D vs tk (rowQ D X k)) r' ∧ Ch [1610, 1643] [51, 70, 71] nil r r' ∧ mC r' = mC r
  | 0, j, fu + 1, r, he, _, HX, H, hC => by
    have h24 := W.1
    have hlen := (rowQ_W (X := X) W hd hk).len Wi hn60
    have e53 : aI r 53 k = nj (rowQ D X k).length := (HX.2.2.2.1.2.1 k hk).1
    rw [List.take_of_length_le (by omega)] at hC ⊢
    refine ⟨r, ?_, hC, Ch.rfl, rfl⟩
    rw [R_worthBy_87.eq_2, inb_nj (by omega), gd_t (decide_eq_true (by omega)), ix_nj (by omega), e53, nj_l_mul, nj_add, if_pos (by rw [nj_le (by omega) (by omega)]; omega)]
  | e + 1, j, fu + 1, r, he, hf, HX, H, hC => by
    have h24 := W.1
    have C2 := HX.2.1
    have hlen := (rowQ_W (X := X) W hd hk).len Wi hn60
    have hRr : RowsR r k ((bQ D (xd X) (xf X) (xn X)).1 k) := HX.2.2.2.1.2.1 k hk
    have e53 : aI r 53 k = nj (rowQ D X k).length := hRr.1
    obtain ⟨z, hz⟩ : ∃ q, (rowQ D X k)[j]? = some q := ⟨(rowQ D X k)[j]'(by omega), List.getElem?_eq_getElem (by omega)⟩
    obtain ⟨zI, z245, -⟩ := (rowQ_W (X := X) W hd hk).1 z (List.mem_of_getElem? hz)
    obtain ⟨y1, y2, y3⟩ := isI_30 W zI
    have y4 : z.1 < 30 * D.2.1 := by omega
    have e54 : aI r 54 (64 * k + j) = nj z.1 := (hRr.2.1 j z hz).1
    have hwin := wIn_Q (vs := vs) (tk := tk) (rowQ_W (X := X) W hd hk) j
    have hwl := wQ_len (D := D) (vs := vs) (tk := tk) (l := rowQ D X k) (j := j)
    have hnext : wFd D vs tk ((rowQ D X k).take (j + 1)) = wSt D vs tk (wFd D vs tk ((rowQ D X k).take j)) z := by rw [take_get hz, wFd_snoc]
    have gz1 : ∀ {β : Type} (c : Option β), gd (inb (nj z.1) 750) c = c := fun c => by rw [inb_nj (by omega), gd_t (decide_eq_true (by omega))]
    have iz : ix (nj z.1) = z.1 := ix_nj (by omega)
    have go1 : ∀ r1, Ch [1610, 1643] [51, 70, 71] nil r r1 → mC r1 = mC r → wSt D vs tk (wFd D vs tk ((rowQ D X k).take j)) z = wFd D vs tk ((rowQ D X k).take j) → CtR D (wFd D vs tk ((rowQ D X k).take j)) r1 →
        ∃ r', R_worthBy_249 (fun z0 z1 z2 z3 z4 => R_worthBy_87 fu z0 z1 z2 z3 z4) (nj k) (wFd D vs tk ((rowQ D X k).take j)).1 (wFd D vs tk ((rowQ D X k).take j)).2.1 (nj (64 * k + j)) r1 = R_worthBy_255 (wFd D vs tk (rowQ D X k)).1 (wFd D vs tk (rowQ D X k)).2.1 r' ∧ CtR D (wFd D vs tk (rowQ D X k)) r' ∧ Ch [1610, 1643] [51, 70, 71] nil r r' ∧ mC r' = mC r := fun r1 c1 h1 hsame hc => by
      rw [hsame] at hnext
      have ih := R_worthBy_87_e W Wi hn60 hd hk e (j + 1) fu r1 (by omega) (by omega) (HX.Ch c1 h1 (by decide) (by decide)) (HoR_Ch3 H c1 h1 (by decide) (by decide)) (by rw [hnext]; exact hc)
      rw [hnext] at ih
      obtain ⟨r', a1, a2, a3, a4⟩ := ih
      refine ⟨r', ?_, a2, c1.trans a3, by omega⟩
      unfold R_worthBy_249
      rw [vb_e, nj_add_l]
      exact a1
    rw [R_worthBy_87.eq_2, inb_nj (by omega), gd_t (decide_eq_true (by omega)), ix_nj (show k < 2147483648 by omega), e53, nj_l_mul, nj_add, if_neg (by rw [nj_le (by omega) (by omega)]; omega), inb_nj (by omega), gd_t (decide_eq_true (by omega)), ix_nj (show 64 * k + j < 2147483648 by omega), e54, vb_e, gz1, iz, dat_15 HX.1 (x := 15) (by omega) y4]
    by_cases c2 : D.1 15 z.1 = 2
    · rw [if_pos c2]
      exact go1 r Ch.rfl rfl (by unfold wSt; rw [if_pos (Or.inl c2)]) hC
    · have h45 : D.1 15 z.1 = 4 ∨ D.1 15 z.1 = 5 := by
        rcases z245 with y | y
        · exact absurd y c2
        · exact y
      rw [if_neg c2, gz1, dat_15 HX.1 (x := 16) (by omega) y4, R_isBarred_e HX.1 W Wi hwin.1 (by omega) hC.1 (fun i c h => (hC.2 i c h).1), bn_s]
      cases cb : barS D (wFd D vs tk ((rowQ D X k).take j)).2.2 (D.1 16 z.1) with
      | true =>
        rw [if_neg (by decide)]
        exact go1 r Ch.rfl rfl (by unfold wSt; rw [if_pos (Or.inr (Or.inl cb))]) hC
      | false =>
        rw [if_pos (by rfl)]
        obtain ⟨kk, jj, hkk, hjj, ez⟩ := id zI
        obtain ⟨s, s1, s2, -, -, -, -, -, -, -, s10, ⟨a, e', q1, q2, q3, q4, q5, q6, q7⟩, -⟩ := Wi kk jj hkk hjj
        rw [← ez] at s2 s10 q3 q4
        have hs : s = 4 ∨ s = 5 := by
          rcases h45 with z | z
          · exact Or.inl ((nj_inj (b := 4) (by omega) (by omega)).mp (s2.symm.trans z))
          · exact Or.inr ((nj_inj (b := 5) (by omega) (by omega)).mp (s2.symm.trans z))
        obtain ⟨ta', tb', u1, u2, u3, u4, u5⟩ := s10 (by omega)
        obtain ⟨r1, a1, a2, a3⟩ := R_holds_e HX.1 h24 y4 q3 q4 q1 q2 q7 H.2.2.1 H.2.2.2 C2
        have c1 : Ch [1610, 1643] [51, 70, 71] nil r r1 := a2.mono (by simp) (by simp) (fun _ h => h)
        have hC1 : CtR D (wFd D vs tk ((rowQ D X k).take j)) r1 := by
          unfold CtR
          rw [a2.i (by decide) (by omega), a2.ai (by decide) nil_no (by omega), a2.ai (by decide) nil_no (by omega)]
          exact hC
        rw [a1, bn_s]
        cases hh : holdS D vs tk z.1 with
        | false =>
          rw [if_pos (by rfl)]
          exact go1 r1 c1 a3 (by unfold wSt; rw [if_pos (Or.inr (Or.inr hh))]) hC1
        | true =>
          rw [if_neg (by decide)]
          have X1 := HX.Ch c1 a3 (by decide) (by decide)
          have H1 := HoR_Ch3 H c1 a3 (by decide) (by decide)
          obtain ⟨r2, b1, b2, b3, -⟩ := R_termOf_e (vs := vs) h24 u2 u1 X1.1 H1.2.2.1 X1.2.1 u5
          have c2' : Ch [1610, 1643] [51, 70, 71] nil r r2 := c1.trans (b2.mono (by simp) (by simp) (fun _ h => h))
          have hC2m : mC r2 = mC r := by omega
          have X2 := HX.Ch c2' hC2m (by decide) (by decide)
          have hC2 : CtR D (wFd D vs tk ((rowQ D X k).take j)) r2 := by
            unfold CtR
            rw [b2.i (by decide) (by omega), b2.ai (by decide) nil_no (by omega), b2.ai (by decide) nil_no (by omega)]
            exact hC1
          have ev : valS D vs (ix (D.1 21 z.1)) (ix (D.1 22 z.1)) = valS D vs ta' tb' := by rw [u3, u4, ix_nj (by omega), ix_nj (by omega)]
          rw [gz1, gz1, dat_15 X1.1 (x := 21) (by omega) y4, dat_15 X1.1 (x := 22) (by omega) y4, u3, u4, b1, bn_s, gz1, dat_15 X2.1 (x := 15) (by omega) y4]
          have c3 : Ch [1610, 1643] [51, 70, 71] nil r (sI (wI (wI r2 71 (wFd D vs tk ((rowQ D X k).take j)).2.2.length (nj z.1)) 70 (wFd D vs tk ((rowQ D X k).take j)).2.2.length (D.1 16 z.1)) 1643 0 (nj ((wFd D vs tk ((rowQ D X k).take j)).2.2.length + 1))) := ((c2'.wI (Or.inl (by decide))).wI (Or.inl (by decide))).sI (by decide)
          have hC3 : mC (sI (wI (wI r2 71 (wFd D vs tk ((rowQ D X k).take j)).2.2.length (nj z.1)) 70 (wFd D vs tk ((rowQ D X k).take j)).2.2.length (D.1 16 z.1)) 1643 0 (nj ((wFd D vs tk ((rowQ D X k).take j)).2.2.length + 1))) = mC r := by rw [k_mC_sI, k_mC_wI, k_mC_wI]; exact hC2m
          have hsL : (wSt D vs tk (wFd D vs tk ((rowQ D X k).take j)) z).2.2 = (wFd D vs tk ((rowQ D X k).take j)).2.2 ++ [z.1] := by
            unfold wSt
            rw [if_neg (by rw [hh, cb]; simp [c2])]
            by_cases q4 : D.1 15 z.1 = 4
            · rw [if_pos q4]
            · rw [if_neg q4]
          obtain ⟨r', d1, d2, d3, d4⟩ := R_worthBy_87_e W Wi hn60 hd hk e (j + 1) fu _ (by omega) (by omega) (HX.Ch c3 hC3 (by decide) (by decide)) (HoR_Ch3 H c3 hC3 (by decide) (by decide)) (by
            unfold CtR
            rw [hnext, hsL, List.length_append]
            refine ⟨by rw [k_mI_sI_e, up1_eq]; rfl, fun i c hc => ?_⟩
            rw [k_aI_sI, k_aI_wI_e, up1_ap, k_aI_wI (show 71 ≠ 70 by omega), k_aI_wI_e, up1_ap, k_aI_wI (show 70 ≠ 71 by omega)]
            by_cases y : i = (wFd D vs tk ((rowQ D X k).take j)).2.2.length
            · rw [if_pos y, if_pos y]
              rw [y, List.getElem?_append_right (Nat.le_refl _), Nat.sub_self] at hc
              cases hc
              exact ⟨rfl, rfl⟩
            · rw [if_neg y, if_neg y]
              have hlt : i < (wFd D vs tk ((rowQ D X k).take j)).2.2.length := by
                have := (List.getElem?_eq_some_iff.mp hc).1
                rw [List.length_append] at this
                simp at this
                omega
              rw [List.getElem?_append_left hlt] at hc
              exact hC2.2 i c hc)
          refine ⟨r', ?_, d2, c3.trans d3, by omega⟩
          have hval : wFd D vs tk ((rowQ D X k).take (j + 1)) = if D.1 15 z.1 = 4 then ((wFd D vs tk ((rowQ D X k).take j)).1 + jmax (-100) (jmin 400 (valS D vs ta' tb')), (wFd D vs tk ((rowQ D X k).take j)).2.1, (wFd D vs tk ((rowQ D X k).take j)).2.2 ++ [z.1]) else ((wFd D vs tk ((rowQ D X k).take j)).1, (wFd D vs tk ((rowQ D X k).take j)).2.1 + jmax 0 (jmin 999 (valS D vs ta' tb')), (wFd D vs tk ((rowQ D X k).take j)).2.2 ++ [z.1]) := by
            rw [hnext, ← ev]
            unfold wSt
            rw [if_neg (by rw [hh, cb]; simp [c2])]
          have e212 : ∀ x y : Int32, R_worthBy_212 (fun z0 z1 z2 z3 z4 => R_worthBy_87 fu z0 z1 z2 z3 z4) (nj k) x y (nj (64 * k + j)) (nj z.1) r2 = R_worthBy_87 fu (nj k) x y (nj (64 * k + (j + 1))) (sI (wI (wI r2 71 (wFd D vs tk ((rowQ D X k).take j)).2.2.length (nj z.1)) 70 (wFd D vs tk ((rowQ D X k).take j)).2.2.length (D.1 16 z.1)) 1643 0 (nj ((wFd D vs tk ((rowQ D X k).take j)).2.2.length + 1))) := fun x y => by
            unfold R_worthBy_212 R_worthBy_249
            rw [hC2.1, inb_nj (by omega), gd_t (decide_eq_true (by omega)), vb_e, gz1, k_mI_wI, hC2.1, inb_nj (by omega), gd_t (decide_eq_true (by omega)), vb_e, vb_e, k_mI_wI, k_mI_wI, hC2.1, nj_add_l, vb_e, nj_add_l, ix_nj (show (wFd D vs tk ((rowQ D X k).take j)).2.2.length < 2147483648 by omega), iz, k_aI_wI (show 16 ≠ 71 by omega), dat_15 X2.1 (x := 16) (by omega) y4]
            rfl
          simp only [R_held_e _ (-100) 400 (by decide), R_held_e _ 0 999 (by decide), bp_s, vb_e, e212]
          rcases h45 with q4 | q5
          · rw [if_pos q4] at hval ⊢
            rw [hval] at d1
            exact d1
          · have n4 : ¬ D.1 15 z.1 = 4 := by rw [q5]; decide
            rw [if_neg n4] at hval ⊢
            rw [hval] at d1
            exact d1
theorem R_worthBy_e (W : WText D nc) (Wi : WItems D nc) (hn60 : nc ≤ 60) (hd : xd X < 140) (hf8 : xf X < 8) (hn : xn X ≤ D.2.2) {k j h : Nat} {z : Row} (hwho : who < 10) (hk : k < D.2.1) (hz : (rowQ D X k)[j]? = some z) (hz2 : D.1 15 z.1 = 2) (hh : h < 48) (HX : RX D X who r) (HS : SuR D sup r) (h60 : aI r 60 h = tsH D X h) (h61 : aI r 61 h = nj (wkH D X h)) :
    ∃ r', R_worthBy (nj who) (nj h) (nj k) (jk k (some j)) r = some (woS D X sup k j h, r') ∧ mI r' 1642 0 = rtS D X sup k j ∧ CtR D (wgS D X sup k j h) r' ∧ RX D X who r' ∧ SuR D sup r' ∧ Ch [1610, 1611, 1625, 1642, 1643] [50, 51, 59, 70, 71] nil r r' ∧ mC r' = mC r := by
  have h24 := W.1
  have C2 := HX.2.1
  have hlen := (rowQ_W (X := X) W hd hk).len Wi hn60
  have hj : j < 60 := by have := get_mem hz; omega
  have c0 : Ch [1610, 1611, 1625, 1642, 1643] [50, 51, 59, 70, 71] nil r (sI (sI r 1643 0 0) 1642 0 0) := (Ch.rfl.sI (by decide)).sI (by decide)
  have hC0 : mC (sI (sI r 1643 0 0) 1642 0 0) = mC r := by rw [k_mC_sI, k_mC_sI]
  have X0 := HX.Ch c0 hC0 (by decide) (by decide)
  have S0 := HS.Ch C2 c0 (by decide)
  obtain ⟨x1, x2, x3, x4, x5, x6, x7, x8, x9, x10, x11⟩ := id X0
  obtain ⟨r1, a1, a2, a3⟩ := R_heldMargin_e W Wi hn60 x1 x2 x3 hd hf8 hn x4 x5 x6 x7 S0.1 S0.2 hk hz hz2 (xy X)
  have a1' : R_heldMargin (nj (64 * k + j)) (xy X) (sI (sI r 1643 0 0) 1642 0 0) = some (mgH D X sup k j, r1) := a1
  have c1 : Ch [1610, 1611, 1625, 1642, 1643] [50, 51, 59, 70, 71] nil r r1 := c0.trans (a2.mono (by decide) (by decide) (fun _ h => h))
  have hC1 : mC r1 = mC r := by omega
  have X1 := HX.Ch c1 hC1 (by decide) (by decide)
  obtain ⟨y1, y2, y3, y4, y5, y6, y7, y8, y9, y10, y11⟩ := id X1
  obtain ⟨r2, b1, b2, b3, b4, b5⟩ := R_asks_e y1 y2 W.2.1 hd hf8 hn y5 y6 y7 hwho hh
  have e60 : aI r1 60 h = tsH D X h := by rw [c1.ai (by decide) nil_no (by omega)]; exact h60
  have e61 : aI r1 61 h = nj (wkH D X h) := by rw [c1.ai (by decide) nil_no (by omega)]; exact h61
  rw [y8, e60, e61, y10, y11] at b2
  rw [y9] at b3
  have b2' : ∀ i, i < 12 → aI r2 50 i = vH D X h i := b2
  have c2 : Ch [1610, 1611, 1625, 1642, 1643] [50, 51, 59, 70, 71] nil r r2 := c1.trans (b4.mono (by decide) (by decide) (fun _ h => h))
  have e50 : aI r2 50 0 = vS D (xf X) (xd X) (xn X) (xy X) 0 := by rw [b2' 0 (by omega)]; rfl
  have c3 : Ch [1610, 1611, 1625, 1642, 1643] [50, 51, 59, 70, 71] nil r (wI (sI r2 1642 0 (rtS D X sup k j)) 50 11 (rtS D X sup k j)) := (c2.sI (by decide)).wI (Or.inl (by decide))
  generalize hr3 : wI (sI r2 1642 0 (rtS D X sup k j)) 50 11 (rtS D X sup k j) = r3 at c3
  have hC3 : mC r3 = mC r := by rw [← hr3, k_mC_wI, k_mC_sI]; omega
  have X3 := HX.Ch c3 hC3 (by decide) (by decide)
  have H3 : HoR r3 D (vW D X sup k j h) (xt X) := by
    refine ⟨X3.1, X3.2.1, fun i hi => ?_, ?_⟩
    · rw [← hr3, k_aI_wI_e, up1_ap, k_aI_sI]
      unfold vW
      by_cases q : i = 11
      · rw [if_pos q, if_pos q]
      · rw [if_neg q, if_neg q]; exact b2' i hi
    · rw [← hr3, k_mI_wI, k_mI_sI (by omega)]; exact b3
  have e43 : mI r3 1643 0 = nj 0 := by
    rw [← hr3, k_mI_wI, k_mI_sI (by omega), b4.i (by decide) (by omega), a2.i (by decide) (by omega), k_mI_sI (by omega), k_mI_sI_e, up1_eq]
    rfl
  have e42 : mI r3 1642 0 = rtS D X sup k j := by rw [← hr3, k_mI_wI, k_mI_sI_e, up1_eq]
  obtain ⟨r4, d1, d2, d3, d4⟩ := R_worthBy_87_e (vs := vW D X sup k j h) (tk := xt X) W Wi hn60 hd hk (rowQ D X k).length 0 FU r3 (by omega) (by unfold FU; omega) X3 H3 ⟨e43, fun i c hc => by cases hc⟩
  have c4 : Ch [1610, 1611, 1625, 1642, 1643] [50, 51, 59, 70, 71] nil r r4 := c3.trans (d3.mono (by decide) (by decide) (fun _ h => h))
  have e42' : mI r4 1642 0 = rtS D X sup k j := by rw [d3.i (by decide) (by omega)]; exact e42
  refine ⟨r4, ?_, e42', d2, HX.Ch c4 (by omega) (by decide) (by decide), HS.Ch C2 c4 (by decide), c4, by omega⟩
  have hwin := wFd_in (vs := vW D X sup k j h) (tk := xt X) (rowQ D X k) _ wIn_0 (fun z hz => ⟨((rowQ_W (X := X) W hd hk).1 z hz).1, ((rowQ_W (X := X) W hd hk).1 z hz).2.1⟩)
  obtain ⟨ee, he1, he2⟩ := hwin.2
  have hwl := wFd_len (D := D) (vs := vW D X sup k j h) (tk := xt X) (rowQ D X k) (100, 0, [])
  have hle : ee ≤ 60000 := by simp at hwl; omega
  have h0 : (0 : Int32) ≤ (wgS D X sup k j h).2.1 := by
    show (0 : Int32) ≤ ((rowQ D X k).foldl (wSt D (vW D X sup k j h) (xt X)) (100, 0, [])).2.1
    rw [he2]
    exact nj_0le (by omega)
  have hx : ∀ y : Int32, 0 ≤ y → jmax 0 (jmin 9999 y) = jmin y 9999 := fun y hy => by
    unfold jmax jmin
    grind
  have e63 : R_worthBy_63 (nj k) (sI r2 1642 0 (rtS D X sup k j)) = some (woS D X sup k j h, r4) := by
    unfold R_worthBy_63
    rw [inb_lit (show (11 : Nat) < 2147483648 by omega), gd_t (by decide), vb_e, vb_e, ix_lit (show (11 : Nat) < 2147483648 by omega), k_mI_sI_e, up1_eq, hr3, nj_l_mul]
    refine Eq.trans d1 ?_
    unfold R_worthBy_255
    rw [R_held_e _ 0 1000 (by decide), bp_s, R_held_e _ 0 9999 (by decide), bp_s, e42', show (wFd D (vW D X sup k j h) (xt X) (rowQ D X k)) = wgS D X sup k j h from rfl, hx _ h0]
    rfl
  unfold R_worthBy
  rw [vb_e, vb_e, if_neg (jk_some (by omega) (by omega)), inb_nj (by omega), gd_t (decide_eq_true hwho), ix_nj (by omega), x8, show jk k (some j) = nj (64 * k + j) from rfl, a1', bn_s, b1, bn_s, inb_lit (show (0 : Nat) < 2147483648 by omega), gd_t (by decide), vb_e, ix_lit (show (0 : Nat) < 2147483648 by omega), e50, k_mI_sI_e, up1_eq]
  by_cases q : 0 ≤ vS D (xf X) (xd X) (xn X) (xy X) 0 + mgH D X sup k j
  · have : rtS D X sup k j = vS D (xf X) (xd X) (xn X) (xy X) 0 + mgH D X sup k j := by
      unfold rtS jmax
      grind
    rw [if_pos q, ← this]
    exact e63
  · have : rtS D X sup k j = 0 := by
      unfold rtS jmax
      grind
    have ess : sI (sI r2 1642 0 (vS D (xf X) (xd X) (xn X) (xy X) 0 + mgH D X sup k j)) 1642 0 0 = sI r2 1642 0 (rtS D X sup k j) := by
      rw [this]
      unfold sI
      have : up2 (mI (mT r2, mN r2, up2 (mI r2) 1642 0 (vS D (xf X) (xd X) (xn X) (xy X) 0 + mgH D X sup k j), mL r2, mR r2, aI r2, aL r2, aR r2, mC r2, mS r2)) 1642 0 0 = up2 (mI r2) 1642 0 0 := by
        funext a b
        show (if a = 1642 ∧ b = 0 then 0 else if a = 1642 ∧ b = 0 then _ else mI r2 a b) = if a = 1642 ∧ b = 0 then 0 else mI r2 a b
        by_cases c : a = 1642 ∧ b = 0
        · rw [if_pos c, if_pos c]
        · rw [if_neg c, if_neg c, if_neg c]
      rw [this]
      rfl
    rw [if_neg q, vb_e, ess]
    exact e63
end Wr
