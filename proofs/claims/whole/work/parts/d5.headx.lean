/-! Layer C: the head of a TEXT, both sides -/
theorem ItemAt.kiz {p p' : Mem} {D : Dt} {k i a s q : Nat} (h : ItemAt p D k i a s q) (T : Top p) (c : Kiz p p') : ItemAt p' D k i a s q := by
  obtain ⟨g1, g2, g3, g4, g5, g6, g7, g8, g9, g10, g11, g12, g13, g14, g15, g16, g17, g18, g19⟩ := h
  have l1 : a < mC p := T.lt (by rw [g2]; decide)
  have l2 : s < mC p := T.lt (by rw [g12]; decide)
  have l3 : q < mC p := T.lt (by rw [g13]; decide)
  have hA : ∀ b L, 51 ≤ b → Arr p b L → Arr p' b L := fun b L hb hL => hL.Ch T c.1 (by simp only [List.mem_cons, List.not_mem_nil, or_false]; omega) (fun z => z)
  have eI : ∀ f, 256 ≤ f → f ≤ 268 → mI p' f a = mI p f a := fun f f1 f2 => (c.2 a l1 f f1 f2).1
  unfold ItemAt
  rw [c.1.t l1, c.1.t l2, c.1.t l3, (c.2 a l1 264 (by omega) (by omega)).2.1, (c.2 a l1 262 (by omega) (by omega)).2.2, (c.2 a l1 263 (by omega) (by omega)).2.2, eI 256 (by omega) (by omega), eI 257 (by omega) (by omega), eI 258 (by omega) (by omega), eI 259 (by omega) (by omega), eI 260 (by omega) (by omega), eI 261 (by omega) (by omega), eI 265 (by omega) (by omega), eI 266 (by omega) (by omega), eI 267 (by omega) (by omega)]
  refine ⟨g1, g2, g3, g4, g5, g6, g7, g8, g9, g10, g11, g12, g13, fun z => hA _ _ g10 (g14 z), fun z => ?_, g16, g17, g18, g19⟩
  obtain ⟨nt, h1, h2⟩ := g15 z
  exact ⟨nt, h1, hA _ _ g11 h2⟩
theorem Lk.kiz {p p' : Mem} {D : Dt} {fa ta ia sa ca : Nat → Nat} {od : List Nat} (h : Lk fa ta ia sa ca od p D) (T : Top p) (c : Kiz p p') : Lk fa ta ia sa ca od p' D := by
  obtain ⟨L1, L2, L3, L4, L5⟩ := h
  refine ⟨L1.Ch T c.1 (fun f hf => ?_) (fun a ha => ?_) ⟨nil_no, fun _ _ => nil_no⟩, L2.Ch T c.1 (by decide) (fun a ha => ?_) (fun _ _ => nil_no), L3.Ch T c.1 (by decide) nil_no, fun k j hk hj => (L4 k j hk hj).kiz T c, L5⟩
  · unfold ItG; simp only [List.mem_cons, List.not_mem_nil, or_false]; omega
  · simp only [List.mem_cons, List.not_mem_nil, or_false]; omega
  · simp only [List.mem_cons, List.not_mem_nil, or_false]; omega
section Hx
variable {N : Nat} {kd pl : Nat → Nat} {x kt : Nat} {p r : Mem} {t nm : Nat}
theorem Pi.ph (h : Pi N kd pl x p r t nm (200 * x) (500 * x)) (hx : mI r 1588 0 = nj x) : Ph N kd pl x 0 p r t nm := ⟨h.1, ⟨fun _ => h.2.1, fun z => absurd rfl z⟩, h.2.2.1, h.2.2.2.1, h.2.2.2.2.2.2.1, h.2.2.2.2.2.2.2.2.2, hx⟩
theorem fail_h (h : Ph N kd pl x kt p r t nm) (d : Nat) (hd : d = 1 ∨ d = 2) : ∃ p' r', P_Parser_fail (nj d) p = some (0, p') ∧ R_fail (nj d) r = some ((), r') ∧ Fld p' r' ∧ Hz x nm p r p' r' := by
  have hN := h.1.1.2.1
  have htN := h.1.2.1
  have h82 := h.p82
  obtain ⟨k1, k2, k3, k4, k5, k6, k7, k8⟩ := h.1.1.2.2.2.2 t h.1.2.1
  obtain ⟨p', b1, b2⟩ := fail_e d h.1.2.2.1 (show t ≤ 500 by omega)
  obtain ⟨r', d1, d2, d3⟩ := fail_r (c := d) h.1.2.2.2.2.1 h.1.2.2.2.1 (by omega) k6 hd
  have hB : Bad nm p r p' r' := bad_of h.1 Ct.rfl b2 d2 (fail_t (q := 0) d1) (fail_o d1 (by omega) (by omega)) (fail_o d1 (by omega) (by omega)) (fun _ _ => rfl) ((d3 0).1.al (by decide) (fun z => z) (by omega))
  exact ⟨p', r', b1, d1, hB.1, hB.hz h82⟩
/-- behind the title: name, firm, 'from', the award -/
theorem title_j {fa ta ia sa ca : Nat → Nat} {od : List Nat} {D : Dt} {s0 : Nat} (h : Ph N kd pl x 0 p r 1 nm) (hn : nm ≤ 60) (h51 : mI r 1551 0 = 0) (h776 : mI p 776 22 = 0) (h54 : mI r 1554 0 = nj x) (hs0 : s0 < 4) (h783 : mI p 783 22 = nj s0) (h8x : aI r 8 x = nj s0) (h785 : mI p 785 22 = -1) (L : Lk fa ta ia sa ca od p D) (W : WText D nm) (hDx : D.2.1 = x) (hm : ∀ k, k < x → aI r 8 k = D.1 8 k ∧ aI r 9 k = D.1 9 k) :
    (∃ v p' r' t' nm', (bn (P_Parser_takeTitle p) fun r16 m17 => if r16 = 0 then some (0, m17) else if mI m17 783 22 < 2 then P_Parser_takeHead_90 m17 else bn (P_Parser_takeKind 45 m17) fun r22 m23 => if r22 = 0 then some (0, m23) else bn (P_Parser_takeInt 0 7 m23) fun r27 m28 => if r27 = 0 then some (0, m28) else vb (sI m28 785 22 (mI m28 780 22)) fun m33 => P_Parser_takeHead_90 m33) = some (1, p') ∧ Hna (nj s0) (nj 1) r = some ((), r') ∧ Pi N kd pl x p' r' t' nm' (200 * x) (500 * x) ∧ 5 ≤ t' ∧ Hz x nm p r p' r' ∧ nm ≤ nm' ∧ v < nm' ∧ v < 600 ∧ Hc D x s0 v p' r' ∧ mI p' 782 22 = mI p 782 22) ∨
    (∃ p' r', (bn (P_Parser_takeTitle p) fun r16 m17 => if r16 = 0 then some (0, m17) else if mI m17 783 22 < 2 then P_Parser_takeHead_90 m17 else bn (P_Parser_takeKind 45 m17) fun r22 m23 => if r22 = 0 then some (0, m23) else bn (P_Parser_takeInt 0 7 m23) fun r27 m28 => if r27 = 0 then some (0, m28) else vb (sI m28 785 22 (mI m28 780 22)) fun m33 => P_Parser_takeHead_90 m33) = some (0, p') ∧ Hna (nj s0) (nj 1) r = some ((), r') ∧ Fld p' r' ∧ Hz x nm p r p' r') := by
  have h82 := h.p82
  have hx := h.2.2.2.2.2.2
  have hx2 : x ≤ 23 := h.2.2.2.2.2.1
  have hN := h.1.1.2.1
  have htN := h.1.2.1
  have T : Top p := h.1.2.2.2.2.2.2.2.2.1
  have T1 := T.1
  obtain ⟨k1, k2, k3, k4, k5, k6, k7, k8⟩ := h.1.1.2.2.2.2 1 htN
  clear k7 k8
  have ek : (nj (kd 1) = 2) = (kd 1 = 2) := nj_eq_l (by omega) (by omega)
  have hb1 : mI p 779 22 = nj 1 := h.1.2.2.1
  by_cases z : kd 1 = 2
  · -- the name's number, the award of that name
    have h771 : mI p 771 22 = nj nm := by rw [h.2.2.1.2.2.1, Nat.min_eq_left hn]
    have eN : P_Parser_numberOf_2 FU (aL p 20 1) 0 p = some (if fsA (aL p 23) (aL p 20 1) nm 0 < nm then nj (fsA (aL p 23) (aL p 20 1) nm 0) else -1, p) := numberOf_e hn h771 nm 0 FU (by omega) (by unfold FU; omega)
    generalize hf : fsA (aL p 23) (aL p 20 1) nm 0 = f at *
    generalize hw0 : (if f < nm then nj f else (-1 : Int32)) = w0 at *
    obtain ⟨told, hto, htold⟩ : ∃ told : Bool, (if (awd D w0).map ta = none then P_Parser_takeTitle_53 0 p else P_Parser_takeTitle_53 1 p) = P_Parser_takeTitle_53 (tI told) p ∧ (told = false ↔ awd D w0 = none) := by
      cases e : awd D w0 with
      | none => exact ⟨false, by rfl, by simp⟩
      | some k => exact ⟨true, by rfl, by simp⟩
    have eT : P_Parser_takeTitle p = P_Parser_takeTitle_89 (if ktO s0 told = 0 then p else ntP (ktO s0 told) (pl 1) p) := by
      unfold P_Parser_takeTitle P_Parser_numberOf
      rw [hb1, inb_nj (by omega), gd_t (decide_eq_true (by omega)), ix_nj (by omega), k3, if_pos (ek.mpr z), gd_t (decide_eq_true (by omega)), eN, bn_s, P_awardNamed_e L W, bn_s, hto, title_e told hs0 h783 hb1 (by omega) k5]
    have hk := ktO_b s0 told
    -- the late fault
    have hH2 : Ph N kd pl x (ktO s0 told) (if ktO s0 told = 0 then p else ntP (ktO s0 told) (pl 1) p) r 1 nm ∧ Hz x nm p r (if ktO s0 told = 0 then p else ntP (ktO s0 told) (pl 1) p) r ∧ (∀ f, f ≠ 776 → f ≠ 777 → mI (if ktO s0 told = 0 then p else ntP (ktO s0 told) (pl 1) p) f = mI p f) ∧ aL (if ktO s0 told = 0 then p else ntP (ktO s0 told) (pl 1) p) = aL p ∧ aI (if ktO s0 told = 0 then p else ntP (ktO s0 told) (pl 1) p) = aI p := by
      by_cases y : ktO s0 told = 0
      · rw [if_pos y, y]
        exact ⟨h, Hz.rfl, fun _ _ _ => rfl, rfl, rfl⟩
      · rw [if_neg y]
        obtain ⟨q1, q2, q3, q4, q5, q6, q7, q8, q9⟩ := ntP_x (k := ktO s0 told) (q := pl 1) (m := p)
        obtain ⟨⟨a1, a2, a3, a4, a5, a6, a7, a8, a9, a10, a11, a12⟩, g2, g3, g4⟩ := id h
        have e76 : mI (ntP (ktO s0 told) (pl 1) p) 776 22 = nj (ktO s0 told) ∧ mI (ntP (ktO s0 told) (pl 1) p) 777 22 = nj (pl 1) := by
          unfold ntP
          rw [if_pos h776, k_mI_sI (by omega), k_mI_sI_e, up1_ap, if_pos rfl, k_mI_sI_e, up1_ap, if_pos rfl]
          exact ⟨rfl, rfl⟩
        exact ⟨⟨⟨a1.keep (by rw [q3]) (by rw [q3]) (by rw [q4]) rfl rfl rfl rfl, a2, by rw [ntP_o (by omega) (by omega)]; exact a3, a4, a5, a6, by rw [ntP_o (by omega) (by omega)]; exact a7, by rw [ntP_o (by omega) (by omega)]; exact a8, a9.same q6 q1, a10, by rw [q6]; exact a11, by rw [q7]; exact a12⟩, ⟨fun w => absurd w y, fun _ => ⟨hk.1, e76.1, e76.2, fun w => absurd h51 w⟩⟩, g3.same (Nat.le_refl _) rfl (by rw [ntP_o (by omega) (by omega)]) (by rw [q4]) rfl rfl (by rw [ntP_o (by omega) (by omega)]), g4⟩, hz_of Ct.rfl.nt Rt.rfl h82 (fun _ _ => by rw [q4]) (fun _ _ => rfl), fun f f1 f2 => ntP_o f1 f2, q4, q3⟩
    rw [eT]
    unfold P_Parser_takeTitle_89 Hna
    generalize (if ktO s0 told = 0 then p else ntP (ktO s0 told) (pl 1) p) = p1 at *
    obtain ⟨hH2, z2, o2, l2, i2⟩ := hH2
    rcases name_j hH2.1 hH2.2.2.1 with ⟨-, -, v, nm', p2, r3, b1, b2, b3, b4, b5, b6, b7, b8, b9, b10, b11⟩ | ⟨p2, r3, b1, b2, b3⟩
    · have hpl := h.1.1.mono 2 (i := 1) (by omega) b3.2.1
      have c1 : 51 ≤ mC p1 := by rw [z2.2.1]; exact T1
      have hn' : nm' ≤ 62 := b4.1
      have hH3 : Ph N kd pl x (ktO s0 told) p2 r3 2 nm' := ⟨b3, hH2.2.1.same (b8.1.i (by decide) (by omega)) (b8.1.i (by decide) (by omega)) (b9.1.i (by decide) (by omega)) (b9.1.i (by decide) (by omega)) hpl, b4, by rw [b9.1.i (by decide) (by omega)]; exact hH2.2.2.2.1, by rw [b9.1.i (by decide) (by omega)]; exact hH2.2.2.2.2.1, hx2, by rw [b9.1.i (by decide) (by omega)]; exact hx⟩
      have z3 : Hz x nm p r p2 r3 := z2.trans (hz_of b8.ct b9.rt h82 b10 b11) (Nat.le_refl _)
      -- which award it is
      have hv := name_v (m := p1) (m' := p2) (t := 1) (n := nm) hH2.1.2.2.1 (by omega) (by rw [i2, k3, z]; rfl) hn (by rw [o2 771 (by omega) (by omega)]; exact h771) b1
      rw [l2, hf, b7] at hv
      have e9 : ∀ k, k < D.2.1 → ∃ u, u < nm ∧ D.1 9 k = nj u := fun k hk => (W.2.2.1 k hk).2.2.2.1
      have hAw : awd D w0 = awd D (nj v) := by
        by_cases y : f < nm
        · rw [if_pos y] at hv hw0
          by_cases u : v < 60
          · rw [if_pos u] at hv
            rw [← hw0, hv]
          · rw [if_neg u] at hv
            have := nj_ne_m1 (a := f) (by omega)
            exact absurd hv.symm (by rw [this]; exact id)
        · rw [if_neg y] at hv hw0
          have hvn : nm ≤ v := by
            by_cases u : v < 60
            · rw [if_pos u] at hv
              by_cases q : nm < 60
              · rw [if_pos q, nj_inj (by omega) (by omega)] at hv
                omega
              · rw [if_neg q] at hv
                have := nj_ne_m1 (a := v) (by omega)
                exact absurd hv (by rw [this]; exact id)
            · omega
          have n1 : awd D w0 = none := by
            cases e : awd D w0 with
            | none => rfl
            | some k =>
              obtain ⟨q1, q2, q3⟩ := (awd_iff W).mp e
              obtain ⟨u, u1, u2⟩ := e9 k q1
              have := nj_ne_m1 (a := u) (by omega)
              rw [u2, ← hw0] at q3
              exact absurd q3 (by rw [this]; exact id)
          have n2 : awd D (nj v) = none := by
            cases e : awd D (nj v) with
            | none => rfl
            | some k =>
              obtain ⟨q1, q2, q3⟩ := (awd_iff W).mp e
              obtain ⟨u, u1, u2⟩ := e9 k q1
              rw [u2, nj_inj (by omega) (by omega)] at q3
              omega
          rw [n1, n2]
      have hxr3 : mI r3 1588 0 = nj x := hH3.2.2.2.2.2.2
      rw [b1, bn_s, vb_e, gz_t (Or.inr rfl), bn_s, if_neg (show ¬ (1 : Int32) = 0 by decide), b2, bn_s, hx, inb_nj (by omega), gd_t (decide_eq_true (by omega)), vb_e, k_mI_wI, hxr3, inb_nj (by omega), gd_t (decide_eq_true (by omega)), vb_e, ix_nj (by omega)]
      have h4 : Ph N kd pl x (ktO s0 told) (sI p2 784 22 (mI p2 780 22)) (wI (wI r3 9 x (nj v)) 10 x (-1)) 2 nm' := ((hH3.sI (by omega)).wI (by omega)).wI (by omega)
      have z4 : Hz x nm p r (sI p2 784 22 (mI p2 780 22)) (wI (wI r3 9 x (nj v)) 10 x (-1)) := ((z3.ps (by decide) (by omega)).rs (by decide)).rs (by decide)
      have oP : ∀ f, 781 ≤ f → f ≠ 784 → mI (sI p2 784 22 (mI p2 780 22)) f 22 = mI p f 22 := fun f f1 f2 => by rw [k_mI_sI f2, b8.1.i (by simp only [List.mem_cons, List.not_mem_nil, or_false]; omega) (by omega), o2 f (by omega) (by omega)]
      have o782 : mI (sI p2 784 22 (mI p2 780 22)) 782 22 = mI p 782 22 := oP 782 (by omega) (by omega)
      have e784 : mI (sI p2 784 22 (mI p2 780 22)) 784 22 = if v < 60 then nj v else -1 := by rw [k_mI_sI_e, up1_ap, if_pos rfl]; exact b7
      have e10 : aI (wI (wI r3 9 x (nj v)) 10 x (-1)) 10 x = -1 := by rw [k_aI_wI_e, up1_ap, if_pos rfl]
      have e9x : aI (wI (wI r3 9 x (nj v)) 10 x (-1)) 9 x = nj v := by rw [k_aI_wI (by omega), k_aI_wI_e, up1_ap, if_pos rfl]
      have e9k : ∀ k, k < x → aI (wI (wI r3 9 x (nj v)) 10 x (-1)) 8 k = D.1 8 k ∧ aI (wI (wI r3 9 x (nj v)) 10 x (-1)) 9 k = D.1 9 k := fun k hk => by
        rw [k_aI_wI (by omega), k_aI_wI (by omega), k_aI_wI (by omega), k_aI_wI_e, up1_ap, if_neg (by omega), b9.1.ai (by decide) (fun w => w) (by omega), b9.1.ai (by decide) (fun w => w) (by omega)]
        exact hm k hk
      have e8x : aI (wI (wI r3 9 x (nj v)) 10 x (-1)) 8 x = nj s0 := by rw [k_aI_wI (by omega), k_aI_wI (by omega), b9.1.ai (by decide) (fun w => w) (by omega)]; exact h8x
      have e51 : mI (wI (wI r3 9 x (nj v)) 10 x (-1)) 1551 0 = 0 := by rw [k_mI_wI, k_mI_wI, b9.1.i (by decide) (by omega)]; exact h51
      have e54 : mI (wI (wI r3 9 x (nj v)) 10 x (-1)) 1554 0 = nj x := by rw [k_mI_wI, k_mI_wI, b9.1.i (by decide) (by omega)]; exact h54
      generalize sI p2 784 22 (mI p2 780 22) = p3 at *
      generalize wI (wI r3 9 x (nj v)) 10 x (-1) = r4 at *
      rcases hfi_j (s0 := s0) (y2 := nj 1) h4 (by omega) hs0 (by rw [oP 783 (by omega) (by omega)]; exact h783) (by rw [oP 785 (by omega) (by omega)]; exact h785) e10 with ⟨d, p', r5, t', c1, c2, c3, c4, c5, c6, c7, c8, c9, c10, c11, c12, c13, c14⟩ | ⟨p', r5, c1, c2, c3, c4⟩
      · left
        have hE : R_tellHead_137 FU (nj s0) (nj 1) (-1) 0 r5 = R_tellHead_184 (nj s0) (nj 1) (lstA D (nj v) x) r5 := R137_e (D := D) (w := nj v) hx2 (by rw [c5.2.2.2.1.1.i (by decide) (by have := h4.p82; omega)]; exact e54) c4.2.2.2.2.2.2 (fun k hk => by rw [c14 8 (by omega) (by omega), c14 9 (by omega) (by omega)]; exact e9k k hk) (by rw [c14 9 (by omega) (by omega)]; exact e9x) x 0 FU (by omega) (by unfold FU; omega)
        have hl := lst_awd (nm := nj v) W
        rw [hDx] at hl
        have hw : lstA D (nj v) x = -1 ↔ told = false := by
          rw [htold, hAw]
          rcases hl with ⟨l1, l2⟩ | ⟨k, l1, l2, l3⟩
          · rw [l1, l2]; simp
          · rw [l2, l3]
            have := nj_ne_m1 (a := k) (by omega)
            rw [this]; simp
        obtain ⟨r6, g1, g2, g3, g4, g5, g6, g7⟩ := h184_e (told := told) c4 hs0 (by omega) hw
        rw [c2, c3, hE, g1]
        refine ⟨v, p', r6, t', nm', rfl, rfl, g2, by omega, ?_, b5, b6, by omega, ⟨?_, ?_, ?_, ?_, ?_, ?_, ?_, ?_, ?_, g5, fun q => ?_⟩, ?_⟩
        · obtain ⟨q1, q2, q3, q4, q5, q6⟩ := z4.trans c5 b5
          exact ⟨q1, q2, q3, q4.trans g3, q5, fun k hk => by rw [g4]; exact q6 k hk⟩
        · rw [c13 783 (by omega) (by omega) (by omega), oP 783 (by omega) (by omega)]; exact h783
        · rw [g6 8 (by omega), c14 8 (by omega) (by omega)]; exact e8x
        · rw [c13 784 (by omega) (by omega) (by omega)]; exact e784
        · rw [g6 9 (by omega), c14 9 (by omega) (by omega)]; exact e9x
        · rw [g6 10 (by omega)]; exact c10
        · rw [g6 10 (by omega)]; exact c11
        · intro q q2
          rw [g6 10 (by omega)]
          exact c12 q2 (g7 q).2
        · rw [g6 11 (by omega), c7, c8]
        · intro q
          rw [g6 11 (by omega)]
          exact ⟨d, (c9 (g7 q).2).1, c8⟩
        · have u := (hk.2.mp (g7 q).1)
          refine ⟨fun s => ?_, fun s => ?_⟩
          · rw [← hAw]; exact htold.mp (u.1 s)
          · have w1 := u.2 s
            cases e : awd D (nj v) with
            | none =>
              have := htold.mpr (hAw.trans e)
              rw [w1] at this
              cases this
            | some k => exact ⟨k, rfl⟩
        · rw [c13 782 (by omega) (by omega) (by omega)]; exact o782
      · right
        rw [c1, c2]
        exact ⟨p', r5, rfl, rfl, c3, z4.trans c4 b5⟩
    · right
      obtain ⟨r'', g1, g2, g3⟩ := hz_go (F := fun m11 => gd (inb (nj x) 25) (vb (wI m11 9 (ix (nj x)) 0) fun m17 => gd (inb (mI m17 1588 0) 25) (vb (wI m17 10 (ix (mI m17 1588 0)) (-1)) fun m21 => Hfi (nj s0) (nj 1) m21))) h82 hx b3.1 (b3.hz h82) (fun d q hq hx' => hnb_f hq hx' hx2)
      rw [b1, bn_s, vb_e, gz_t (Or.inl rfl), bn_s, if_pos rfl, b2, bn_s, hx]
      exact ⟨_, r'', rfl, g1, by
        obtain ⟨dd, qq, w1, w2, w3⟩ := g2
        exact ⟨dd, qq, by rw [k_mI_sI (by omega)]; exact w1, by rw [k_mI_sI (by omega)]; exact w2, w3⟩, (z2.trans g3 (Nat.le_refl _)).ps (by decide) (by omega)⟩
  · right
    rcases name_j h.1 h.2.2.1 with ⟨w, -⟩ | ⟨p2, r3, b1, b2, b3⟩
    · exact absurd w z
    · have eT : P_Parser_takeTitle p = P_Parser_takeName p := by
        unfold P_Parser_takeTitle P_Parser_takeName
        rw [hb1, inb_nj (by omega), gd_t (decide_eq_true (by omega)), gd_t (decide_eq_true (by omega)), ix_nj (by omega), k3, if_neg (fun w => z (ek.mp w)), gd_t (decide_eq_true (by omega)), if_neg (fun w => z (ek.mp w))]
      obtain ⟨r'', g1, g2, g3⟩ := hz_go (F := fun m11 => gd (inb (nj x) 25) (vb (wI m11 9 (ix (nj x)) 0) fun m17 => gd (inb (mI m17 1588 0) 25) (vb (wI m17 10 (ix (mI m17 1588 0)) (-1)) fun m21 => Hfi (nj s0) (nj 1) m21))) h82 hx b3.1 (b3.hz h82) (fun d q hq hx' => hnb_f hq hx' hx2)
      unfold Hna
      rw [eT, b1, bn_s, if_pos rfl, b2, bn_s, hx]
      exact ⟨p2, r'', rfl, g1, g2, g3⟩
theorem head_j {fa ta ia sa ca : Nat → Nat} {od : List Nat} {D : Dt} (hP : Pi N kd pl x p r 0 nm (200 * x) (500 * x)) (hn : nm ≤ 60) (h51 : mI r 1551 0 = 0) (hx : mI r 1588 0 = nj x) (h54 : mI r 1554 0 = nj x) (h785 : mI p 785 22 = -1) (L : Lk fa ta ia sa ca od p D) (W : WText D nm) (hDx : D.2.1 = x) (hm : ∀ k, k < x → aI r 8 k = D.1 8 k ∧ aI r 9 k = D.1 9 k) :
    (∃ s0 v p' r' t' nm', P_Parser_takeHead p = some (1, p') ∧ R_tellHead r = some ((), r') ∧ Pi N kd pl x p' r' t' nm' (200 * x) (500 * x) ∧ 5 ≤ t' ∧ Hz x nm p r p' r' ∧ nm ≤ nm' ∧ s0 < 4 ∧ v < nm' ∧ v < 600 ∧ Hc D x s0 v p' r' ∧ mI p' 782 22 = mI p 782 22) ∨
    (∃ p' r', P_Parser_takeHead p = some (0, p') ∧ R_tellHead r = some ((), r') ∧ Fld p' r' ∧ Hz x nm p r p' r') := by
  have h82 := hP.p82
  have T := hP.T
  have T1 := T.1
  have hT := hP.tN
  have hkt := hP.kd3
  have hx2 : x ≤ 23 := hP.2.2.2.2.2.2.2.2.2
  obtain ⟨w1, w2, w3⟩ := hd_e (kd 0) hkt.1
  have hC : ∀ v, Ch [783] [] nil p (sI p 783 22 v) := fun v => Ch.rfl.sI (by decide)
  have e783 : ∀ v, mI (sI p 783 22 v) 783 22 = v := fun v => by rw [k_mI_sI_e, up1_ap, if_pos rfl]
  unfold P_Parser_takeHead R_tellHead
  rw [hP.1.2.2.1, inb_nj (by omega), gd_t (decide_eq_true (by omega)), ix_nj (by omega), hkt.2.1, vb_e, e783, w1, bp_s, hP.1.2.2.2.1, inb_nj (by omega), gd_t (decide_eq_true (by omega)), ix_nj (by omega), hkt.2.2, vb_e]
  by_cases z : 41 ≤ kd 0 ∧ kd 0 ≤ 44
  · obtain ⟨u1, u2⟩ := w2 z
    rw [decide_eq_true z, tI_t, if_neg (show ¬ (1 : Int32) = 0 by decide), u1, u2, if_neg (by rw [nj_lt_l (by omega) (by omega)]; omega), if_pos (by rw [nj_le_l (by omega) (by omega)]; omega)]
    have hP2 : Pi N kd pl x (sI p 783 22 (nj (kd 0 - 41))) r 0 nm (200 * x) (500 * x) := hP.chp (hC _) (by decide) (by decide)
    have hKz : Kiz p (sI p 783 22 (nj (kd 0 - 41))) := kiz_of (hC _) (by decide) (by decide) (by decide)
    have e783' := e783 (nj (kd 0 - 41))
    have e785' : mI (sI p 783 22 (nj (kd 0 - 41))) 785 22 = -1 := by rw [k_mI_sI (by omega)]; exact h785
    have e782' : mI (sI p 783 22 (nj (kd 0 - 41))) 782 22 = mI p 782 22 := by rw [k_mI_sI (by omega)]
    have z1 : Hz x nm p r (sI p 783 22 (nj (kd 0 - 41))) r := Hz.rfl.ps (by decide) (by omega)
    generalize sI p 783 22 (nj (kd 0 - 41)) = p1 at *
    rcases take_l (a := 0) (i := 0) hP2.pj (by omega) with ⟨p2, r2, b1, b2, b3, b4, b5⟩ | ⟨p2, r2, b1, -⟩
    · have hx2' : mI r2 1588 0 = nj x := by rw [b5, k_mI_sI (by omega)]; exact hx
      have z2 : Hz x nm p1 r p2 r2 := by
        rw [b4, b5]
        exact hz_of (Ct.rfl.sI (by decide)) (Rt.rfl.sI (by decide)) h82 (fun _ _ => by rw [k_aL_sI]) (fun _ _ => by rw [k_aL_sI])
      have z3 : Hz x nm p r p2 (wI r2 8 x (nj (kd 0 - 41))) := (z1.trans z2 (Nat.le_refl _)).rs (by decide)
      have h76 : mI p2 776 22 = 0 := by
        have := b3.2.1.1
        rw [this, b5, k_mI_sI (by omega)]
        exact h51
      rw [b1, bn_s, if_neg (show ¬ (1 : Int32) = 0 by decide), h27_e, b2, bn_s, hx2', inb_nj (by omega), gd_t (decide_eq_true (by omega)), vb_e, ix_nj (by omega), b3.1.2.2.2.1]
      rcases title_j (s0 := kd 0 - 41) ((b3.ph hx2').wI (y := 8) (j := x) (v := nj (kd 0 - 41)) (by omega)) hn (by rw [k_mI_wI, b5, k_mI_sI (by omega)]; exact h51) h76 (by rw [k_mI_wI, b5, k_mI_sI (by omega)]; exact h54) (by omega) (by rw [b4, k_mI_sI (by omega)]; exact e783') (by rw [k_aI_wI_e, up1_ap, if_pos rfl]) (by rw [b4, k_mI_sI (by omega)]; exact e785') (L.kiz T (hKz.trans z2.1)) W hDx (fun k hk => by rw [k_aI_wI_e, k_aI_wI (by omega), up1_ap, if_neg (by omega), b5, k_aI_sI]; exact hm k hk) with ⟨v, p', r', t', nm', c1, c2, c3, c4, c5, c6, c7, c8, c9, c10⟩ | ⟨p', r', c1, c2, c3, c4⟩
      · left
        exact ⟨kd 0 - 41, v, p', r', t', nm', c1, c2, c3, c4, z3.trans c5 (Nat.le_refl _), c6, by omega, c7, c8, c9, by rw [c10, b4, k_mI_sI (by omega)]; exact e782'⟩
      · right
        exact ⟨p', r', c1, c2, c3, z3.trans c4 (Nat.le_refl _)⟩
    · have := (take_e hP2.1.2.2.1 (show 0 ≤ 500 by omega)).1 (by omega)
      rw [this] at b1
      exact absurd (Prod.mk.inj (Option.some.inj b1)).1 (by decide)
  · right
    rw [decide_eq_false z, tI_f, if_pos rfl]
    have hP2 : Pi N kd pl x (sI p 783 22 (nj (kd 0) - 41)) r 0 nm (200 * x) (500 * x) := hP.chp (hC _) (by decide) (by decide)
    have z1 : Hz x nm p r (sI p 783 22 (nj (kd 0) - 41)) r := Hz.rfl.ps (by decide) (by omega)
    generalize sI p 783 22 (nj (kd 0) - 41) = p1 at *
    obtain ⟨p', r', a1, a2, a3, a4⟩ := fail_h (hP2.ph hx) 1 (Or.inl rfl)
    have a1' : P_Parser_fail 1 p1 = _ := a1
    have a2' : R_fail 1 r = _ := a2
    obtain ⟨r'', g1, g2, g3⟩ := hz_go (F := fun m2 => R_tellHead_27 (nj (kM (kd 0)) - 20) m2) h82 hx a3 a4 (fun d q hq hx' => h27_f hq hx' hx2 (by rw [a4.2.2.2.1.2.1]; exact h82))
    have e22 : R_tellHead_22 (nj (kM (kd 0)) - 20) r = some ((), r'') := by
      unfold R_tellHead_22
      rw [a2', bn_s]
      exact g1
    rw [a1', bn_s, gz_t (Or.inl rfl)]
    refine ⟨p', r'', rfl, ?_, g2, z1.trans g3 (Nat.le_refl _)⟩
    rcases w3 z with e | e
    · rw [if_pos e, e22]
    · rw [if_neg e, e22]
      split <;> rfl
end Hx
