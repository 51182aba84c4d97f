/-! Layer C: every call leads from Rel to Rel, with one answer -/
section St
variable {nc w n : Nat} {p r p' r' : Mem} {F A F' A' : List Nat}
theorem Rel.p51 (h : Rel nc w p r) : 51 ≤ mC p ∧ 82 ≤ mC r := ⟨h.1.1.1.1, h.1.1.2.1⟩
theorem same_j {β : Type} {x y : Option (β × Mem)} {v : β} (h : Rel nc w p r) (e1 : x = some (v, p)) (e2 : y = some (v, r)) : Stq w p r x y := ⟨v, p, r, nc, w, e1, e2, h, by omega, by omega, by omega⟩
theorem askl_j {x y : Option (Int32 × Mem)} (h : Rel nc w p r) (hn : n ≤ 537600) (ha : Askl nc w n p r x y) : Stq w p r x y := by
  obtain ⟨v, p', r', e1, e2, B, L, c, c', m1, m2, m3, w', g1, g2⟩ := ha
  exact ⟨v, p', r', nc, w', e1, e2, ⟨B, L, h.2.2.1.Ch h.p51.1 h.p51.2 c c' (by decide) (by decide) (by decide) (by decide) (by decide) (by decide) (fun _ q => q) (by decide) (by decide) (by decide) (by decide) (by decide) (by decide) (by decide), g2⟩, by omega, by omega, by omega⟩
theorem askm_j {β : Type} {x y : Option (β × Mem)} (h : Rel nc w p r) (hn : n ≤ 537600) (ha : Askm nc w n p r x y) : Stq w p r x y := by
  obtain ⟨v, p', r', e1, e2, B, L, c, c', m1, m2, m3, w', g1, g2⟩ := ha
  exact ⟨v, p', r', nc, w', e1, e2, ⟨B, L, h.2.2.1.Ch h.p51.1 h.p51.2 c c' (by decide) (by decide) (by decide) (by decide) (by decide) (by decide) (fun _ q => q) (by decide) (by decide) (by decide) (by decide) (by decide) (by decide) (by decide), g2⟩, by omega, by omega, by omega⟩
theorem askt_j {β : Type} {x y : Option (β × Mem)} (h : Rel nc w p r) (hn : n ≤ 537600) (ha : Askt nc w n p r x y) : Stq w p r x y := by
  obtain ⟨v, p', r', e1, e2, B, L, c, c', m1, m2, m3, w', g1, g2⟩ := ha
  exact ⟨v, p', r', nc, w', e1, e2, ⟨B, L, h.2.2.1.Ch h.p51.1 h.p51.2 c c' (by decide) (by decide) (by decide) (by decide) (by decide) (by decide) (fun _ q => q) (by decide) (by decide) (by decide) (by decide) (by decide) (by decide) (by decide), g2⟩, by omega, by omega, by omega⟩
theorem askq_j {x y : Option (Int32 × Mem)} (h : Rel nc w p r) (ha : Askq nc p r x y) : Stq w p r x y := by
  obtain ⟨v, p', r', e1, e2, B, c, c', m1, m2, m3⟩ := ha
  have d := dat_Ch c' h.p51.2 (by decide) (by decide)
  refine ⟨v, p', r', nc, w, e1, e2, ⟨B, by rw [d]; exact LC_Ch h.2.1 h.p51.2 c' (by decide) (by decide), h.2.2.1.Ch h.p51.1 h.p51.2 c c' (by decide) (by decide) (by decide) (by decide) (by decide) (by decide) (fun _ q => q) (by decide) (by decide) (by decide) (by decide) (by decide) (by decide) (by decide), ?_⟩, by omega, by omega, by omega⟩
  rw [c.i (by decide) (by have := h.p51.1; omega)]
  exact h.2.2.2
theorem askw_j {x y : Option (Int32 × Mem)} (h : Rel nc w p r) (hn : n ≤ 537600) (ha : Askw nc w n p r x y) : Stq w p r x y := by
  obtain ⟨v, p', r', e1, e2, B, c, c', m1, m2, m3, w', g1, g2⟩ := ha
  have d := dat_Ch c' h.p51.2 (by decide) (by decide)
  exact ⟨v, p', r', nc, w', e1, e2, ⟨B, by rw [d]; exact LC_Ch h.2.1 h.p51.2 c' (by decide) (by decide), h.2.2.1.Ch h.p51.1 h.p51.2 c c' (by decide) (by decide) (by decide) (by decide) (by decide) (by decide) (fun _ q => q) (by decide) (by decide) (by decide) (by decide) (by decide) (by decide) (by decide), g2⟩, by omega, by omega, by omega⟩
theorem did_j (h : Rel nc w p r) (x1 x2 x3 x4 : Int32) : Stq w p r (P_did x1 x2 x3 x4 p) (R_did x1 x2 x3 x4 r) := by
  obtain ⟨v, p', e1, e2, B, c, m1, m2⟩ := st_did h.1 x1 x2 x3 x4
  refine ⟨v, p', r, nc, w, e1, e2, ⟨B, h.2.1, h.2.2.1.Ch h.p51.1 h.p51.2 c (Ch.rfl (F := []) (A := [])) (by decide) (by decide) (by decide) (by decide) (by decide) (by decide) (fun _ q => q.elim) (by decide) (by decide) (by decide) (by decide) (by decide) (by decide) (by decide), ?_⟩, by omega, by omega, by omega⟩
  rw [c.i (by decide) (by have := h.p51.1; omega)]
  exact h.2.2.2
/-- the data below FACTS -/
theorem dat_44c (c' : Ch F' A' nil r r') (hr : 82 ≤ mC r) (hF : (F'.all fun f => f != 1554) = true) (hA : (A'.all fun a => decide (44 ≤ a)) = true) : (∀ x, x < 44 → (dat r').1 x = (dat r).1 x) ∧ (dat r').2.1 = (dat r).2.1 := by
  have e : mI r' 1554 0 = mI r 1554 0 := c'.i (nin hF (by simp)) (by omega)
  refine ⟨fun x hx => ?_, by show ix (mI r' 1554 0) = ix (mI r 1554 0); rw [e]⟩
  funext j
  show (if msk (ix (mI r' 1554 0)) x j then aI r' x j else 0) = if msk (ix (mI r 1554 0)) x j then aI r x j else 0
  rw [e, c'.ai (nin hA (by simp; omega)) nil_no (by omega)]
theorem told_j {x y : Option (Int32 × Mem)} (h : Rel nc w p r) (ha : Told nc p r x y) : Stq w p r x y := by
  obtain ⟨v, p', r', e1, e2, C, c, c', m1, m2, hz⟩ := ha
  obtain ⟨hp, hr⟩ := h.p51
  obtain ⟨⟨C0, L0, P0, W0, B0, S0⟩, hL, hR, hw⟩ := id h
  obtain ⟨d1, d2⟩ := dat_44c c' hr (by decide) (by decide)
  have hBL : BCache (dat r') r' ∧ LC (dat r') none r' := by
    rcases hz with rfl | ⟨z1, z2⟩
    · exact ⟨B0, hL⟩
    · exact ⟨Or.inl z1, Or.inl z2⟩
  refine ⟨v, p', r', nc, w, e1, e2, ⟨⟨C, (L0.P c hp (by decide) (by decide) (fun _ q => q.elim)).R c' hr (by decide) (by decide), P0.Ch c (by decide), W0.eqD d1 d2, hBL.1, by rw [c'.i (by decide) (by omega)]; exact S0⟩, hBL.2, hR.Ch hp hr c c' (by decide) (by decide) (by decide) (by decide) (by decide) (by decide) (fun _ q => q.elim) (by decide) (by decide) (by decide) (by decide) (by decide) (by decide) (by decide), ?_⟩, by omega, by omega, by omega⟩
  rw [c.i (by decide) (by omega)]
  exact hw
theorem cell_j (h : Rel nc w p r) (x y : Int32) : Stq w p r (P_cell x y p) (R_cell x y r) := by
  obtain ⟨hp, hr⟩ := h.p51
  obtain ⟨⟨C0, L0, P0, W0, B0, S0⟩, hL, hR, hw⟩ := id h
  obtain ⟨v, p', r', e1, e2, C, c, c', m1, m2, hz⟩ := st_cell C0 x y
  obtain ⟨d1, d2⟩ := dat_44c c' hr (by decide) (by decide)
  have hBL : BCache (dat r') r' ∧ LC (dat r') none r' := by
    rcases hz with rfl | ⟨z1, z2⟩
    · exact ⟨B0, hL⟩
    · exact ⟨Or.inl z1, Or.inl z2⟩
  refine ⟨v, p', r', nc, w, e1, e2, ⟨⟨C, (L0.P c hp (by decide) (by decide) (fun _ q => q)).R c' hr (by decide) (by decide), P0.Ch c (by decide), W0.eqD d1 d2, hBL.1, by rw [c'.i (by decide) (by omega)]; exact S0⟩, hBL.2, hR.Ch hp hr c c' (by decide) (by decide) (by decide) (by decide) (by decide) (by decide) (fun _ q => q) (by decide) (by decide) (by decide) (by decide) (by decide) (by decide) (by decide), ?_⟩, by omega, by omega, by omega⟩
  rw [c.i (by decide) (by omega)]
  exact hw
theorem tp_j {x y : Option (Int32 × Mem)} (h : Rel nc w p r) (ha : ∃ v p' r', x = some (v, p') ∧ y = some (v, r') ∧ Tp p' r' ∧ TpC p r p' r') : Stq w p r x y := by
  obtain ⟨v, p', r', e1, e2, hT, c, m1, m2, c', m3⟩ := ha
  obtain ⟨hp, hr⟩ := h.p51
  obtain ⟨h1, hL, ⟨t1, t2, t3, t4, t5⟩, hw⟩ := id h
  obtain ⟨B, d⟩ := h1.fr ((h1.2.1.P c hp (by decide) (by decide) (fun _ q => q.elim)).R c' hr (by decide) (by decide)) c c' m3 (by decide) (by decide) (by decide) (by decide) (by decide) (by decide) (by decide) (by decide) (by decide)
  refine ⟨v, p', r', nc, w, e1, e2, ⟨B, by rw [d]; exact LC_Ch hL hr c' (by decide) (by decide), ⟨hT, t2.Ch hp hr c c' (by decide) (fun _ q => q.elim) (by decide) (by decide), Ky_Ch t3 hp hr c c' (by decide) (fun _ q => q.elim) (by decide), ?_, ?_⟩, ?_⟩, by omega, by omega, by omega⟩
  · rw [c.al (by decide) nil_no (by omega), c'.al (by decide) nil_no (by omega)]; exact t4
  · rw [c.i (by decide) (by omega), c'.i (by decide) (by omega)]; exact t5
  · rw [c.i (by decide) (by omega)]; exact hw
theorem named_j (h : Rel nc w p r) : Stq w p r (P_named p) (R_named r) := by
  obtain ⟨hp, hr⟩ := h.p51
  obtain ⟨h1, hL, ⟨⟨n0, t1⟩, t2, t3, t4, t5⟩, hw⟩ := id h
  obtain ⟨v, p', r', e1, e2, hT, ⟨c, m1, m2⟩, c', m3, m4⟩ := st_named h1.1 t1 t3 t4
  obtain ⟨B, d⟩ := h1.fr ((h1.2.1.P c hp (by decide) (by decide) (fun _ q => q.elim)).R c' hr (by decide) (by decide)) c c' m3 (by decide) (by decide) (by decide) (by decide) (by decide) (by decide) (by decide) (by decide) (by decide)
  refine ⟨v, p', r', nc, w, e1, e2, ⟨B, by rw [d]; exact LC_Ch hL hr c' (by decide) (by decide), ⟨hT, t2.Ch hp hr c c' (by decide) (fun _ q => q.elim) (by decide) (by decide), Ky_Ch t3 hp hr c c' (by decide) (fun _ q => q.elim) (by decide), ?_, ?_⟩, ?_⟩, by omega, by omega, by omega⟩
  · rw [c.al (by decide) nil_no (by omega), c'.al (by decide) nil_no (by omega)]; exact t4
  · rw [c.i (by decide) (by omega), c'.i (by decide) (by omega)]; exact t5
  · rw [c.i (by decide) (by omega)]; exact hw
theorem read_j (h : Rel nc w p r) (hb : w < 2147483648) : Stq w p r (P_read p) (R_read r) := by
  obtain ⟨hp, hr⟩ := h.p51
  obtain ⟨h1, hL, ⟨⟨n0, t1⟩, t2, t3, t4, t5⟩, hw⟩ := id h
  obtain ⟨v, p', r', nc', e1, e2, C, W, hT, hN, h15, hz, ⟨⟨c, c'⟩, m1, m2, m3, m4⟩⟩ := st_read h1.1 h1.2.2.2.1 h1.2.2.1 t1 t3 t4 (by rw [hw]; exact nj_0le hb) t5
  have hBL : BCache (dat r') r' ∧ LC (dat r') none r' := by
    rcases hz with ⟨z1, z2, z3⟩ | ⟨z1, z2⟩
    · rw [z1]
      exact ⟨h1.2.2.2.2.1.Ch z3 hr (by decide) (by decide), LC_Ch hL hr z3 (by decide) (by decide)⟩
    · exact ⟨Or.inl z1, Or.inl z2⟩
  refine ⟨v, p', r', nc', w, e1, e2, ⟨⟨C, (h1.2.1.P c hp (by decide) (by decide) (fun _ q => q.elim)).R c' hr (by decide) (by decide), h1.2.2.1.Ch c (by decide), W, hBL.1, by rw [c'.i (by decide) (by omega)]; exact h1.2.2.2.2.2⟩, hBL.2, ⟨hT, t2.Ch hp hr c c' (by decide) (fun _ q => q.elim) (by decide) (by decide), Ky_Ch t3 hp hr c c' (by decide) (fun _ q => q.elim) (by decide), hN, h15⟩, ?_⟩, by omega, m1, m2⟩
  rw [c.i (by decide) (by omega)]; exact hw
theorem Ch.dyof {A2 : List Nat} {dy : Nat → Prop} (c : Ch F A nil p p') (hA : ∀ a, a ∈ A → a ∈ A2 ∨ dy a) : Ch F A2 dy p p' := ⟨c.1, c.2.1, c.2.2.1, fun a h1 h2 h3 => c.2.2.2 a (fun q => (hA a q).elim h1 h2) (fun q => q) h3⟩
theorem prt_j {x y : Option (Int32 × Mem)} (h : Rel nc w p r) (ha : ∃ v p' r', x = some (v, p') ∧ y = some (v, r') ∧ Prt p' r' ∧ Ch [901, 906, 907] [42, 43, 44, 45, 46, 47, 48, 49, 50] nil p p' ∧ Ch [1651] [73, 74, 75, 76, 77, 78, 79, 80, 81] nil r r' ∧ mC p' = mC p ∧ mS p' = mS p ∧ mC r' = mC r) : Stq w p r x y := by
  obtain ⟨v, p', r', e1, e2, hT, c, c', m1, m2, m3⟩ := ha
  obtain ⟨hp, hr⟩ := h.p51
  obtain ⟨⟨hc, Ld, hP, Wi, hB, hS⟩, hL, ⟨t1, t2, t3, t4, t5⟩, hw⟩ := id h
  obtain ⟨T, C2, W1, W2, g1, g2, g3, g4, g5, fa, ta, ia, sa, ca, od, ⟨L1, L2, L3, L4, L5⟩, hSc⟩ := id hc
  have c5 : Ch [901, 906, 907] [42, 43, 44, 45, 46, 47, 48, 49] (fun a => a = 50) p p' := c.dyof (fun a ha => by simp only [List.mem_cons, List.not_mem_nil, or_false] at ha ⊢; omega)
  have h50 : mT p 50 = 32 := (PC_50 hP).1
  have n50 : ∀ k, k < (dat r).2.1 → ¬ (ta k - 1 = 50) := fun k hk e => by
    obtain ⟨-, -, -, -, -, -, -, -, -, t10, -⟩ := L2.2.1 k hk
    rw [e, h50] at t10
    exact absurd t10 (by decide)
  have c1 : Core nc p' r := by
    refine ⟨T.Ch c, C2, W1, W2, g1, g2, g3, by rw [c.i (by decide) (by omega)]; exact g4, g5, fa, ta, ia, sa, ca, od, ⟨?_, ?_, ?_, ?_, L5⟩, ?_⟩
    · exact L1.Ch T c5 (fun f hf => by simp only [List.mem_cons, List.not_mem_nil, or_false]; omega) (fun a ha => by simp only [List.mem_cons, List.not_mem_nil, or_false]; omega) ⟨by omega, fun i hi => by have := (L1.2 i hi).2.1.1; omega⟩
    · exact L2.Ch T c5 (by decide) (fun a ha => by simp only [List.mem_cons, List.not_mem_nil, or_false]; omega) n50
    · exact L3.Ch T c5 (by decide) (by omega)
    · exact L4.Ch T c5 (fun f h1 h2 => by simp only [List.mem_cons, List.not_mem_nil, or_false]; omega) (fun a ha => by simp only [List.mem_cons, List.not_mem_nil, or_false]; omega) (fun k j hk hj => by
        have I := L4 k j hk hj
        have := I.2.2.2.2.2.2.2.2.2.1
        have := I.2.2.2.2.2.2.2.2.2.2.1
        exact ⟨by omega, by omega⟩)
    · exact hSc.Ch L2 T c5 (fun f hf => by rcases hf with rfl | rfl | rfl <;> decide) (fun a ha => by simp only [List.mem_cons, List.not_mem_nil, or_false]; omega) ⟨by omega, fun k hk => by have := (L2.2.1 k hk).1; omega⟩
  obtain ⟨k1, k2⟩ := c1.R c' m3 (by decide) (by decide) (by decide)
  have B : Bs nc p' r' := ⟨k1, (Ld.P c hp (by decide) (by decide) (fun _ q => q.elim)).R c' hr (by decide) (by decide), hP.Ch c (by decide), by rw [k2]; exact Wi, by rw [k2]; exact hB.Ch c' C2 (by decide) (by decide), by rw [c'.i (by decide) (by omega)]; exact hS⟩
  refine ⟨v, p', r', nc, w, e1, e2, ⟨B, by rw [k2]; exact LC_Ch hL hr c' (by decide) (by decide), ⟨t1.Ch hp hr c c' (by decide) (by decide) (fun _ q => q.elim) (by decide) (by decide), hT, Ky_Ch t3 hp hr c c' (by decide) (fun _ q => q.elim) (by decide), ?_, ?_⟩, ?_⟩, by omega, by omega, by omega⟩
  · rw [c.al (by decide) nil_no (by omega), c'.al (by decide) nil_no (by omega)]; exact t4
  · rw [c.i (by decide) (by omega), c'.i (by decide) (by omega)]; exact t5
  · rw [c.i (by decide) (by omega)]; exact hw
/-- THE LAND, where no data change -/
theorem land_j {x y : Option (Int32 × Mem)} (h : Rel nc w p r) (ha : ∃ v p' r', x = some (v, p') ∧ y = some (v, r') ∧ Land p' r' ∧ Ch [384, 385, 386] [6, 7, 8, 9, 10, 11, 12] nil p p' ∧ Ch [1591] [42] nil r r' ∧ mC p' = mC p ∧ mS p' = mS p ∧ mC r' = mC r) : Stq w p r x y := by
  obtain ⟨v, p', r', e1, e2, hT, c, c', m1, m2, m3⟩ := ha
  obtain ⟨hp, hr⟩ := h.p51
  obtain ⟨h1, hL, hR, hw⟩ := id h
  obtain ⟨B, d⟩ := h1.fr hT c c' m3 (by decide) (by decide) (by decide) (by decide) (by decide) (by decide) (by decide) (by decide) (by decide)
  refine ⟨v, p', r', nc, w, e1, e2, ⟨B, by rw [d]; exact LC_Ch hL hr c' (by decide) (by decide), hR.Ch hp hr c c' (by decide) (by decide) (by decide) (by decide) (by decide) (by decide) (fun _ q => q.elim) (by decide) (by decide) (by decide) (by decide) (by decide) (by decide) (by decide), ?_⟩, by omega, by omega, by omega⟩
  rw [c.i (by decide) (by omega)]; exact hw
theorem zp_Ch (c' : Ch F' A' nil r r') (hr : 82 ≤ mC r) (hF : (F'.all fun f => f != 1554 && f != 1601) = true) (hA : (A'.all fun a => a == 37 || a == 38 || a == 43) = true) : Zp (dat r) (dat r') := by
  have e : mI r' 1554 0 = mI r 1554 0 := c'.i (nin hF (by simp)) (by omega)
  have e2 : mI r' 1601 0 = mI r 1601 0 := c'.i (nin hF (by simp)) (by omega)
  refine ⟨?_, fun a h1 h2 h3 => ?_⟩
  · show (ix (mI r' 1554 0), ix (mI r' 1601 0)) = (ix (mI r 1554 0), ix (mI r 1601 0))
    rw [e, e2]
  · funext j
    show (if msk (ix (mI r' 1554 0)) a j then aI r' a j else 0) = if msk (ix (mI r 1554 0)) a j then aI r a j else 0
    rw [e]
    by_cases q : msk (ix (mI r 1554 0)) a j = true
    · have hlt : a < 82 := by
        unfold msk at q
        grind
      rw [if_pos q, if_pos q, c'.ai (nin hA (by simp [h1, h2, h3])) nil_no (by omega)]
    · rw [if_neg q, if_neg q]
/-- THE LAND, where the data change: nothing is remembered -/
theorem zap_j {x y : Option (Int32 × Mem)} (h : Rel nc w p r) (ha : ∃ v p' r', x = some (v, p') ∧ y = some (v, r') ∧ Land p' r' ∧ Ch [385] [6, 7, 12] nil p p' ∧ Ch [1592, 1612, 1627] [37, 38, 43] nil r r' ∧ mC p' = mC p ∧ mS p' = mS p ∧ (r' = r ∨ (mC r' = mC r ∧ mI r' 1612 0 = -1 ∧ mI r' 1627 0 = -1))) : Stq w p r x y := by
  obtain ⟨v, p', r', e1, e2, hT, c, c', m1, m2, hz⟩ := ha
  obtain ⟨hp, hr⟩ := h.p51
  obtain ⟨h1, hL, hR, hw⟩ := id h
  have hw' : mI p' 1157 25 = nj w := by rw [c.i (by decide) (by omega)]; exact hw
  rcases hz with rfl | ⟨z0, z1, z2⟩
  · obtain ⟨B, d⟩ := h1.fr hT c (Ch.rfl (F := []) (A := [])) rfl (by decide) (by decide) (by decide) (by decide) (by decide) (by decide) (by decide) (by decide) (by decide)
    exact ⟨v, p', r', nc, w, e1, e2, ⟨B, hL, hR.Ch hp hr c c' (by decide) (by decide) (by decide) (by decide) (by decide) (by decide) (fun _ q => q.elim) (by decide) (by decide) (by decide) (by decide) (by decide) (by decide) (by decide), hw'⟩, by omega, by omega, by omega⟩
  · obtain ⟨hc, Ld, hP, Wi, hB, hS⟩ := h1
    have hZ := zp_Ch c' hr (by decide) (by decide)
    have c1 : Core nc p' r := hc.Chp (hc.1.Ch c) c (fun f hf hm => by simp only [List.mem_cons, List.not_mem_nil, or_false] at hf hm; omega) (fun a ha hm => by simp only [List.mem_cons, List.not_mem_nil, or_false] at hm; omega)
    have C' : Core nc p' r' := c1.zap hZ (c'.i (by decide) (by omega)) (c'.i (by decide) (by omega)) (c'.i (by decide) (by omega)) z0
    exact ⟨v, p', r', nc, w, e1, e2, ⟨⟨C', hT, hP.Ch c (by decide), Wi.zap hZ, Or.inl z1, by rw [c'.i (by decide) (by omega)]; exact hS⟩, Or.inl z2, hR.Ch hp hr c c' (by decide) (by decide) (by decide) (by decide) (by decide) (by decide) (fun _ q => q.elim) (by decide) (by decide) (by decide) (by decide) (by decide) (by decide) (by decide), hw'⟩, by omega, by omega, by omega⟩
theorem person_j (h : Rel nc w p r) (x y z : Int32) (hC : ∀ v r', R_person x y z r = some (v, r') → mC r' = mC r) : Stq w p r (P_person x y z p) (R_person x y z r) := by
  obtain ⟨hp, hr⟩ := h.p51
  obtain ⟨h1, hL, hR, hw⟩ := id h
  obtain ⟨v, p', r', e1, e2, hT, c, c', m1, m2, hk, hle⟩ := st_person h1.2.1 x y z
  obtain ⟨B, d⟩ := h1.fr hT c c' (hC _ _ e2) (by decide) (by decide) (by decide) (by decide) (by decide) (by decide) (by decide) (by decide) (by decide)
  refine ⟨v, p', r', nc, w, e1, e2, ⟨B, ?_, hR.Ch hp hr c c' (by decide) (by decide) (by decide) (by decide) (by decide) (by decide) (fun _ q => q.elim) (by decide) (by decide) (by decide) (by decide) (by decide) (by decide) (by decide), ?_⟩, by omega, by omega, by omega⟩
  · rw [d]
    rcases hL with hL | ⟨X, who, g1, g2, g3, g4, g5, g6, g7, g8, g9, g10, g11, g12, g13, g14⟩
    · left
      rw [c'.i (by decide) (by omega)]; exact hL
    · right
      obtain ⟨k1, k2, k3⟩ := hk who g9.2 g1
      refine ⟨X, who, g1, g2, g3, g4, g5, ?_, ?_, ?_, ⟨k1.trans g9.1, Int32.lt_of_lt_of_le g9.2 hle⟩, k2.trans g10, k3.trans g11, ?_, ?_, fun g hg => ?_⟩
      · rw [c'.i (by decide) (by omega)]; exact g6
      · rw [c'.i (by decide) (by omega)]; exact g7
      · rw [c'.i (by decide) (by omega)]; exact g8
      · rw [c'.i (by decide) (by omega)]; exact g12
      · rw [c'.i (by decide) (by omega)]; exact g13
      · have a : ∀ a, 60 ≤ a → a ≤ 67 → aI r' a = aI r a := fun a h1 h2 => c'.ai (by simp only [List.mem_cons, List.not_mem_nil, or_false]; omega) nil_no (by omega)
        have := g14 g hg
        unfold RkH RfH at this ⊢
        rw [a 60 (by omega) (by omega), a 61 (by omega) (by omega), a 62 (by omega) (by omega), a 63 (by omega) (by omega), a 64 (by omega) (by omega), a 65 (by omega) (by omega), a 66 (by omega) (by omega), a 67 (by omega) (by omega)]
        exact this
  · rw [c.i (by decide) (by omega)]; exact hw
end St
