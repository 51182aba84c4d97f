/-! Layer C: the head of a TEXT: firm and 'from' -/
/-- late faults within a head; kt: what is wrong with the title, which the reference notes at the end -/
def LH (pl : Nat → Nat) (kt : Nat) (p r : Mem) (t : Nat) : Prop := (kt = 0 → Lat p r (pl t)) ∧ (kt ≠ 0 → kt < 100 ∧ mI p 776 22 = nj kt ∧ mI p 777 22 = nj (pl 1) ∧ (mI r 1551 0 ≠ 0 → ∃ q, pl 1 < q ∧ q < pl t ∧ q ≤ 2000 ∧ mI r 1552 0 = nj q))
theorem LH.same {pl : Nat → Nat} {kt t t' : Nat} {p r p' r' : Mem} (h : LH pl kt p r t) (e1 : mI p' 776 22 = mI p 776 22) (e2 : mI p' 777 22 = mI p 777 22) (e3 : mI r' 1551 0 = mI r 1551 0) (e4 : mI r' 1552 0 = mI r 1552 0) (ht : pl t ≤ pl t') : LH pl kt p' r' t' := by
  refine ⟨fun z => ((h.1 z).same e1 e2 e3 e4).mono ht, fun z => ?_⟩
  obtain ⟨h1, h2, h3, h4⟩ := h.2 z
  refine ⟨h1, e1.trans h2, e2.trans h3, fun w => ?_⟩
  rw [e3] at w
  obtain ⟨q, q1, q2, q3, q4⟩ := h4 w
  exact ⟨q, q1, by omega, q3, e4.trans q4⟩
theorem LH.late {pl : Nat → Nat} {kt t : Nat} {p r : Mem} (h : LH pl kt p r t) : mI r 1551 0 ≠ 0 → ∃ q', q' < pl t ∧ mI r 1552 0 = nj q' := fun w => by
  by_cases z : kt = 0
  · obtain ⟨-, q, q1, -, q3⟩ := (h.1 z).2 w
    exact ⟨q, q1, q3⟩
  · obtain ⟨q, -, q2, -, q4⟩ := (h.2 z).2.2.2 w
    exact ⟨q, q2, q4⟩
def Ph (N : Nat) (kd pl : Nat → Nat) (x kt : Nat) (p r : Mem) (t nm : Nat) : Prop := Ps N kd pl p r t ∧ LH pl kt p r t ∧ Nam pl t p r nm ∧ mI r 1580 0 = nj (200 * x) ∧ mI r 1581 0 = nj (500 * x) ∧ x ≤ 23 ∧ mI r 1588 0 = nj x
section Ph
variable {N : Nat} {kd pl : Nat → Nat} {x kt : Nat} {p r : Mem} {t nm : Nat}
theorem Ph.wI {y j : Nat} {v : Int32} (h : Ph N kd pl x kt p r t nm) (hy : 8 ≤ y) : Ph N kd pl x kt p (wI r y j v) t nm := by
  obtain ⟨⟨a1, a2, a3, a4, a5, a6, a7, a8, a9, a10, a11, a12⟩, g2, g3, g4⟩ := h
  exact ⟨⟨a1.keep rfl rfl rfl (by rw [k_aI_wI (by omega)]) (by rw [k_aI_wI (by omega)]) (by rw [k_aI_wI (by omega)]) rfl, a2, a3, a4, a5, a6, a7, a8, a9, a10, a11, a12⟩, g2, g3, g4⟩
theorem Ph.sI {f b : Nat} {v : Int32} (h : Ph N kd pl x kt p r t nm) (h1 : 782 ≤ f) : Ph N kd pl x kt (sI p f b v) r t nm := by
  obtain ⟨⟨a1, a2, a3, a4, a5, a6, a7, a8, a9, a10, a11, a12⟩, g2, g3, g4⟩ := h
  exact ⟨⟨a1, a2, by rw [k_mI_sI (by omega)]; exact a3, a4, a5, a6, by rw [k_mI_sI (by omega)]; exact a7, by rw [k_mI_sI (by omega)]; exact a8, a9, a10, a11, a12⟩, g2.same (by rw [k_mI_sI (by omega)]) (by rw [k_mI_sI (by omega)]) rfl rfl (Nat.le_refl _), g3.same (Nat.le_refl _) rfl (by rw [k_mI_sI (by omega)]) rfl rfl rfl (by rw [k_mI_sI (by omega)]), g4⟩
theorem Ph.p82 (h : Ph N kd pl x kt p r t nm) : 82 ≤ mC r := h.1.2.2.2.2.2.2.2.2.2.1
theorem kind_h (h : Ph N kd pl x kt p r t nm) (k : Nat) (hk : k < 60) {y : Int32} (hy : y = nj (kM k)) (h2 : 2 ≤ k) :
    (∃ p' r', P_Parser_takeKind (nj k) p = some (1, p') ∧ R_must y r = some ((), r') ∧ Ph N kd pl x kt p' r' (t + 1) nm ∧ Hz x nm p r p' r' ∧ p' = sI p 779 22 (nj (t + 1)) ∧ r' = sI r 1547 0 (nj (t + 1))) ∨
    (∃ p' r', P_Parser_takeKind (nj k) p = some (0, p') ∧ R_must y r = some ((), r') ∧ Fld p' r' ∧ Hz x nm p r p' r') := by
  have h82 := h.p82
  obtain ⟨h1, h3, h4, h5, h6, h7, h8⟩ := h
  rcases kind_j h1 k hk hy h2 with ⟨z, w, p', r', a1, a2, a3, a4, a5⟩ | ⟨p', r', a1, a2, a3⟩
  · left
    have hpl := h1.1.mono (t + 1) (i := t) (by omega) a5.2.1
    subst a3 a4
    exact ⟨_, _, a1, a2, ⟨a5, h3.same (by rw [k_mI_sI (by omega)]) (by rw [k_mI_sI (by omega)]) (by rw [k_mI_sI (by omega)]) (by rw [k_mI_sI (by omega)]) hpl, h4.same (by omega) (by rw [k_mI_sI (by omega)]) (by rw [k_mI_sI (by omega)]) (by rw [k_aL_sI]) (by rw [k_aL_sI]) (by rw [k_mI_sI (by omega)]) (by rw [k_mI_sI (by omega)]), by rw [k_mI_sI (by omega)]; exact h5, by rw [k_mI_sI (by omega)]; exact h6, h7, by rw [k_mI_sI (by omega)]; exact h8⟩, hz_of (Ct.rfl.sI (by decide)) (Rt.rfl.sI (by decide)) h82 (fun _ _ => by rw [k_aL_sI]) (fun _ _ => by rw [k_aL_sI]), rfl, rfl⟩
  · right
    exact ⟨p', r', a1, a2, (a3 nm).1, (a3 nm).hz h82⟩
theorem int_h (h : Ph N kd pl x kt p r t nm) (ht : 2 ≤ t) (lo hi : Nat) (hlo : lo < 10000) (hhi : hi < 10000) :
    (∃ v p' r', v ≤ 9999 ∧ P_Parser_takeInt (nj lo) (nj hi) p = some (1, p') ∧ R_number (nj lo) (nj hi) r = some (nj v, r') ∧ Ph N kd pl x kt p' r' (t + 1) nm ∧ Hz x nm p r p' r' ∧ mI p' 780 22 = nj v ∧ (mI r' 1551 0 = 0 → (lo ≤ v ∧ v ≤ hi) ∧ mI r 1551 0 = 0) ∧ (∀ f, 781 ≤ f → mI p' f = mI p f) ∧ aI r' = aI r) ∨
    (∃ v p' r', P_Parser_takeInt (nj lo) (nj hi) p = some (0, p') ∧ R_number (nj lo) (nj hi) r = some (v, r') ∧ Fld p' r' ∧ Hz x nm p r p' r') := by
  have h82 := h.p82
  have hl := h.2.1.late
  obtain ⟨h1, h3, h4, h5, h6, h7, h8⟩ := h
  have hN := h1.1.2.1
  rcases int_j h1 hl lo hi hlo hhi with ⟨v, p', r', a1, a2, a3, a4, a5, a6, a7, a8, a9, a10, a11⟩ | ⟨v, p', r', a1, a2, a3, a4⟩
  · left
    have hpl := (h1.1.2.2.2.1 t a9.2.1).2
    have hp1 : pl 1 < pl t := by
      have u1 := (h1.1.2.2.2.1 1 (by have := a9.2.1; omega)).2
      have u2 := h1.1.mono t (i := 2) ht h1.2.1
      have u3 : pl (1 + 1) = pl 2 := rfl
      omega
    have oP : ∀ f, f ≠ 776 → f ≠ 777 → f ≠ 779 → f ≠ 780 → mI p' f = mI p f := by
      intro f f1 f2 f3 f4
      rw [a5, k_mI_sI f3]
      split
      · rw [k_mI_sI f4]
      · rw [ntP_o f1 f2, k_mI_sI f4]
    have oR : ∀ f, f ≠ 1551 → f ≠ 1552 → f ≠ 1547 → mI r' f = mI r f := by
      intro f f1 f2 f3
      rw [a6]
      split
      · rw [k_mI_sI f3]
      · rw [wrR_o f1 f2, k_mI_sI f3]
    have xP : aL p' = aL p := by
      rw [a5, k_aL_sI]
      split
      · rw [k_aL_sI]
      · rw [ntP_x.2.2.2.1, k_aL_sI]
    have xR : aL r' = aL r ∧ aI r' = aI r := by
      rw [a6]
      split
      · rw [k_aL_sI, k_aI_sI]; exact ⟨rfl, rfl⟩
      · rw [wrR_x.2.2.1, wrR_x.2.2.2, k_aL_sI, k_aI_sI]; exact ⟨rfl, rfl⟩
    have hs : LH pl kt (sI p 780 22 (nj v)) (sI r 1547 0 (nj (t + 1))) t := h3.same (by rw [k_mI_sI (by omega)]) (by rw [k_mI_sI (by omega)]) (by rw [k_mI_sI (by omega)]) (by rw [k_mI_sI (by omega)]) (Nat.le_refl _)
    have hLH : LH pl kt p' r' (t + 1) ∧ (mI r' 1551 0 = 0 → (lo ≤ v ∧ v ≤ hi) ∧ mI r 1551 0 = 0) := by
      by_cases y : lo ≤ v ∧ v ≤ hi
      · rw [if_pos y] at a5 a6
        subst a5 a6
        exact ⟨hs.same (by rw [k_mI_sI (by omega)]) (by rw [k_mI_sI (by omega)]) rfl rfl (by omega), fun q => ⟨y, by rw [k_mI_sI (by omega)] at q; exact q⟩⟩
      · rw [if_neg y] at a5 a6
        subst a5 a6
        refine ⟨⟨fun z => (((hs.1 z).nt (by omega) (by omega) a11).same (by rw [k_mI_sI (by omega)]) (by rw [k_mI_sI (by omega)]) rfl rfl).mono (by omega), fun z => ?_⟩, fun q => absurd q (wrR_ne (by omega) (by omega))⟩
        obtain ⟨w1, w2, w3, w4⟩ := hs.2 z
        have en : ntP 5 (pl t) (sI p 780 22 (nj v)) = sI p 780 22 (nj v) := by
          unfold ntP
          rw [w2, if_neg (by rw [nj_eq_l (by omega) (by omega)]; exact z)]
        rw [en, k_mI_sI (by omega), k_mI_sI (by omega)]
        refine ⟨w1, w2, w3, fun _ => ?_⟩
        by_cases u : mI (sI r 1547 0 (nj (t + 1))) 1551 0 = 0
        · unfold wrR
          rw [if_pos u]
          exact ⟨pl t, hp1, by omega, a11, by rw [k_mI_sI_e, up1_ap, if_pos rfl]⟩
        · obtain ⟨q, q1, q2, q3, q4⟩ := w4 u
          unfold wrR
          rw [if_neg u]
          exact ⟨q, q1, by omega, q3, q4⟩
    refine ⟨v, p', r', a1, a3, a4, ⟨a9, hLH.1, h4.same (by omega) (by rw [oR 1585 (by omega) (by omega) (by omega)]) (by rw [oP 771 (by omega) (by omega) (by omega) (by omega)]) (by rw [xP]) (by rw [xR.1]) (by rw [oR 1587 (by omega) (by omega) (by omega)]) (by rw [oP 778 (by omega) (by omega) (by omega) (by omega)]), by rw [oR 1580 (by omega) (by omega) (by omega)]; exact h5, by rw [oR 1581 (by omega) (by omega) (by omega)]; exact h6, h7, by rw [oR 1588 (by omega) (by omega) (by omega)]; exact h8⟩, hz_of a7 a8 h82 (fun _ _ => by rw [xP]) (fun _ _ => by rw [xR.1]), a10, hLH.2, fun f hf => oP f (by omega) (by omega) (by omega) (by omega), xR.2⟩
  · right
    exact ⟨v, p', r', a1, a2, (a3 nm).1, (a3 nm).hz h82⟩
/-- both failed: the reference's rest -/
theorem hz_go {p' r' : Mem} {F : Mem → Option (Unit × Mem)} (h82 : 82 ≤ mC r) (hx : mI r 1588 0 = nj x) (h1 : Fld p' r') (h2 : Hz x nm p r p' r') (k : ∀ d q, Rf r' d q → mI r' 1588 0 = nj x → ∃ r'', F r' = some ((), r'') ∧ Rf r'' d q ∧ Rh x r' r'') : ∃ r'', F r' = some ((), r'') ∧ Fld p' r'' ∧ Hz x nm p r p' r'' := by
  obtain ⟨d, q, w1, w2, w3⟩ := h1
  obtain ⟨a1, a2, a3, a4, a5, a6⟩ := h2
  obtain ⟨r'', c1, c2, c3⟩ := k d q w3 (by rw [a4.1.i (by decide) (by omega)]; exact hx)
  exact ⟨r'', c1, ⟨d, q, w1, w2, c2⟩, a1, a2, a3, a4.trans c3.1, a5, fun k hk => by rw [c3.2]; exact a6 k hk⟩
theorem h90_j {s0 : Nat} {y2 : Int32} (h : Ph N kd pl x kt p r t nm) (ht : 2 ≤ t) :
    (∃ v p' r', v ≤ 9999 ∧ P_Parser_takeHead_90 p = some (1, p') ∧ R_tellHead_96 (nj s0) y2 r = R_tellHead_137 FU (nj s0) y2 (-1) 0 r' ∧ Ph N kd pl x kt p' r' (t + 3) nm ∧ Hz x nm p r p' r' ∧ mI p' 786 22 = nj v ∧ aI r' 11 x = nj v ∧ (mI r' 1551 0 = 0 → v ≤ 139 ∧ mI r 1551 0 = 0) ∧ (∀ f, 781 ≤ f → f ≠ 786 → mI p' f = mI p f) ∧ (∀ y, y ≠ 11 → aI r' y = aI r y)) ∨
    (∃ p' r', P_Parser_takeHead_90 p = some (0, p') ∧ R_tellHead_96 (nj s0) y2 r = some ((), r') ∧ Fld p' r' ∧ Hz x nm p r p' r') := by
  have h82 := h.p82
  have hx := h.2.2.2.2.2.2
  have hx2 : x ≤ 23 := h.2.2.2.2.2.1
  unfold P_Parser_takeHead_90 R_tellHead_96
  rcases kind_h h 46 (by omega) (y := 25) rfl (by omega) with ⟨p1, r1, a1, a2, a3, a4, a5, a6⟩ | ⟨p1, r1, a1, a2, a3, a4⟩
  · have a1' : P_Parser_takeKind 46 p = _ := a1
    have hx1 := a3.2.2.2.2.2.2
    rw [a1', bn_s, if_neg (show ¬ (1 : Int32) = 0 by decide), a2, bn_s]
    rcases int_h a3 (by omega) 0 139 (by omega) (by omega) with ⟨v, p2, r2, b0, b1, b2, b3, b4, b5, b6, b7, b8⟩ | ⟨v, p2, r2, b1, b2, b3, b4⟩
    · have b1' : P_Parser_takeInt 0 139 p1 = _ := b1
      have b2' : R_number 0 139 r1 = _ := b2
      rw [b1', bn_s, if_neg (show ¬ (1 : Int32) = 0 by decide), vb_e, b2', bn_s, hx1, inb_nj (by omega), gd_t (decide_eq_true (by omega)), vb_e, ix_nj (by omega), b5]
      have h3 : Ph N kd pl x kt (sI p2 786 22 (nj v)) (wI r2 11 x (nj v)) (t + 1 + 1) nm := (b3.sI (by omega)).wI (by omega)
      have z3 : Hz x nm p r (sI p2 786 22 (nj v)) (wI r2 11 x (nj v)) := ((a4.trans b4 (Nat.le_refl _)).ps (by decide) (by omega)).rs (by decide)
      have e786 : mI (sI p2 786 22 (nj v)) 786 22 = nj v := by rw [k_mI_sI_e, up1_ap, if_pos rfl]
      have e11 : aI (wI r2 11 x (nj v)) 11 x = nj v := by rw [k_aI_wI_e, up1_ap, if_pos rfl]
      have eo : ∀ f, 781 ≤ f → f ≠ 786 → mI (sI p2 786 22 (nj v)) f = mI p f := fun f f1 f2 => by rw [k_mI_sI f2, b7 f f1, a5, k_mI_sI (by omega)]
      have eA : ∀ y, y ≠ 11 → aI (wI r2 11 x (nj v)) y = aI r y := fun y hy => by rw [k_aI_wI hy, b8, a6, k_aI_sI]
      have e51 : mI (wI r2 11 x (nj v)) 1551 0 = 0 → v ≤ 139 ∧ mI r 1551 0 = 0 := fun w => by
        rw [k_mI_wI] at w
        have := b6 w
        rw [a6, k_mI_sI (by omega)] at this
        exact ⟨this.1.2, this.2⟩
      generalize sI p2 786 22 (nj v) = p3 at *
      generalize wI r2 11 x (nj v) = r3 at *
      rcases kind_h h3 4 (by omega) (y := 4) rfl (by omega) with ⟨p4, r4, d1, d2, d3, d4, d5, d6⟩ | ⟨p4, r4, d1, d2, d3, d4⟩
      · left
        have d1' : P_Parser_takeKind 4 p3 = _ := d1
        rw [d1', bn_s, gz_t (Or.inr rfl), d2, bn_s, d3.1.2.2.2.2.1, if_pos (show (0 : Int32) ≤ 0 by decide)]
        exact ⟨v, p4, r4, b0, rfl, rfl, d3, z3.trans d4 (Nat.le_refl _), by rw [d5, k_mI_sI (by omega)]; exact e786, by rw [d6, k_aI_sI]; exact e11, by rw [d6, k_mI_sI (by omega)]; exact e51, fun f f1 f2 => by rw [d5, k_mI_sI (by omega)]; exact eo f f1 f2, fun y hy => by rw [d6, k_aI_sI]; exact eA y hy⟩
      · right
        have d1' : P_Parser_takeKind 4 p3 = _ := d1
        obtain ⟨dd, qq, w1, w2, w3⟩ := id d3
        rw [d1', bn_s, gz_t (Or.inl rfl), d2, bn_s, if_neg w3.ne.2.1]
        exact ⟨p4, r4, rfl, rfl, d3, z3.trans d4 (Nat.le_refl _)⟩
    · right
      have b1' : P_Parser_takeInt 0 139 p1 = _ := b1
      have b2' : R_number 0 139 r1 = _ := b2
      obtain ⟨r'', g1, g2, g3⟩ := hz_go (F := fun m6 => gd (inb (nj x) 25) (vb (wI m6 11 (ix (nj x)) v) fun m12 => bn (R_must 4 m12) fun _ m14 => if mI m14 1549 0 ≤ 0 then R_tellHead_137 FU (nj s0) y2 (-1) 0 m14 else some ((), m14))) a3.p82 hx1 b3 b4 (fun d q hq _ => by
        have h1 : Rf (wI r2 11 x v) d q := hq.wI
        rw [inb_nj (by omega), gd_t (decide_eq_true (by omega)), vb_e, ix_nj (by omega), must_f h1, bn_s, if_neg h1.ne.2.1]
        exact ⟨_, rfl, h1, Rh.rfl.wI (by decide)⟩)
      rw [b1', bn_s, if_pos rfl, b2', bn_s, hx1]
      exact ⟨p2, r'', rfl, g1, g2, a4.trans g3 (Nat.le_refl _)⟩
  · right
    have a1' : P_Parser_takeKind 46 p = _ := a1
    obtain ⟨r'', g1, g2, g3⟩ := hz_go (F := fun m2 => bn (R_number 0 139 m2) fun r5 m6 => gd (inb (mI m2 1588 0) 25) (vb (wI m6 11 (ix (mI m2 1588 0)) r5) fun m12 => bn (R_must 4 m12) fun _ m14 => if mI m14 1549 0 ≤ 0 then R_tellHead_137 FU (nj s0) y2 (-1) 0 m14 else some ((), m14))) h82 hx a3 a4 (fun d q hq hx' => by
      have h1 : Rf (wI r1 11 x 0) d q := hq.wI
      rw [number_f hq, bn_s, hx', inb_nj (by omega), gd_t (decide_eq_true (by omega)), vb_e, ix_nj (by omega), must_f h1, bn_s, if_neg h1.ne.2.1]
      exact ⟨_, rfl, h1, Rh.rfl.wI (by decide)⟩)
    rw [a1', bn_s, if_pos rfl, a2, bn_s]
    exact ⟨p1, r'', rfl, g1, g2, g3⟩
/-- the firm, if there is one -/
theorem hfi_j {s0 : Nat} {y2 : Int32} (h : Ph N kd pl x kt p r t nm) (ht : 2 ≤ t) (hs : s0 < 4) (h783 : mI p 783 22 = nj s0) (h785 : mI p 785 22 = -1) (h10 : aI r 10 x = -1) :
    (∃ v p' r' t', v ≤ 9999 ∧ (if mI p 783 22 < 2 then P_Parser_takeHead_90 p else bn (P_Parser_takeKind 45 p) fun r22 m23 => if r22 = 0 then some (0, m23) else bn (P_Parser_takeInt 0 7 m23) fun r27 m28 => if r27 = 0 then some (0, m28) else vb (sI m28 785 22 (mI m28 780 22)) fun m33 => P_Parser_takeHead_90 m33) = some (1, p') ∧ Hfi (nj s0) y2 r = R_tellHead_137 FU (nj s0) y2 (-1) 0 r' ∧ Ph N kd pl x kt p' r' t' nm ∧ Hz x nm p r p' r' ∧ t + 3 ≤ t' ∧ mI p' 786 22 = nj v ∧ aI r' 11 x = nj v ∧ (mI r' 1551 0 = 0 → v ≤ 139 ∧ mI r 1551 0 = 0) ∧ mI p' 785 22 = aI r' 10 x ∧ (s0 < 2 → aI r' 10 x = -1) ∧ (2 ≤ s0 → mI r' 1551 0 = 0 → ∃ g, g < 8 ∧ aI r' 10 x = nj g) ∧ (∀ f, 781 ≤ f → f ≠ 786 → f ≠ 785 → mI p' f = mI p f) ∧ (∀ y, y ≠ 10 → y ≠ 11 → aI r' y = aI r y)) ∨
    (∃ p' r', (if mI p 783 22 < 2 then P_Parser_takeHead_90 p else bn (P_Parser_takeKind 45 p) fun r22 m23 => if r22 = 0 then some (0, m23) else bn (P_Parser_takeInt 0 7 m23) fun r27 m28 => if r27 = 0 then some (0, m28) else vb (sI m28 785 22 (mI m28 780 22)) fun m33 => P_Parser_takeHead_90 m33) = some (0, p') ∧ Hfi (nj s0) y2 r = some ((), r') ∧ Fld p' r' ∧ Hz x nm p r p' r') := by
  have h82 := h.p82
  have hx := h.2.2.2.2.2.2
  have hx2 : x ≤ 23 := h.2.2.2.2.2.1
  have e2 : (nj s0 < 2) = (s0 < 2) := nj_lt_l (by omega) (by omega)
  have e1 : (nj s0 ≤ 1) = (s0 ≤ 1) := nj_le_l (by omega) (by omega)
  unfold Hfi
  rw [h783]
  by_cases z : s0 < 2
  · rw [if_pos (e2.mpr z), if_pos (e1.mpr (by omega))]
    rcases h90_j (s0 := s0) (y2 := y2) h ht with ⟨v, p', r', a1, a2, a3, a4, a5, a6, a7, a8, a9, a10⟩ | ⟨p', r', a1, a2, a3, a4⟩
    · left
      exact ⟨v, p', r', t + 3, a1, a2, a3, a4, a5, Nat.le_refl _, a6, a7, a8, by rw [a9 785 (by omega) (by omega), a10 10 (by omega), h785, h10], fun _ => by rw [a10 10 (by omega), h10], (fun q => by omega), fun f f1 f2 f3 => a9 f f1 f2, fun y y1 y2 => a10 y y2⟩
    · right
      exact ⟨p', r', a1, a2, a3, a4⟩
  · rw [if_neg (fun w => z (e2.mp w)), if_neg (fun w => z (by have := e1.mp w; omega))]
    rcases kind_h h 45 (by omega) (y := 24) rfl (by omega) with ⟨p1, r1, a1, a2, a3, a4, a5, a6⟩ | ⟨p1, r1, a1, a2, a3, a4⟩
    · have a1' : P_Parser_takeKind 45 p = _ := a1
      have hx1 := a3.2.2.2.2.2.2
      rw [a1', bn_s, if_neg (show ¬ (1 : Int32) = 0 by decide), a2, bn_s]
      rcases int_h a3 (by omega) 0 7 (by omega) (by omega) with ⟨v, p2, r2, b0, b1, b2, b3, b4, b5, b6, b7, b8⟩ | ⟨v, p2, r2, b1, b2, b3, b4⟩
      · have b1' : P_Parser_takeInt 0 7 p1 = _ := b1
        have b2' : R_number 0 7 r1 = _ := b2
        rw [b1', bn_s, if_neg (show ¬ (1 : Int32) = 0 by decide), vb_e, b2', bn_s, hx1, inb_nj (by omega), gd_t (decide_eq_true (by omega)), vb_e, ix_nj (by omega), b5]
        have h3 : Ph N kd pl x kt (sI p2 785 22 (nj v)) (wI r2 10 x (nj v)) (t + 1 + 1) nm := (b3.sI (by omega)).wI (by omega)
        have z3 : Hz x nm p r (sI p2 785 22 (nj v)) (wI r2 10 x (nj v)) := ((a4.trans b4 (Nat.le_refl _)).ps (by decide) (by omega)).rs (by decide)
        have e785 : mI (sI p2 785 22 (nj v)) 785 22 = nj v := by rw [k_mI_sI_e, up1_ap, if_pos rfl]
        have e10 : aI (wI r2 10 x (nj v)) 10 x = nj v := by rw [k_aI_wI_e, up1_ap, if_pos rfl]
        have eo : ∀ f, 781 ≤ f → f ≠ 785 → mI (sI p2 785 22 (nj v)) f = mI p f := fun f f1 f2 => by rw [k_mI_sI f2, b7 f f1, a5, k_mI_sI (by omega)]
        have eA : ∀ y, y ≠ 10 → aI (wI r2 10 x (nj v)) y = aI r y := fun y hy => by rw [k_aI_wI hy, b8, a6, k_aI_sI]
        have e51 : mI (wI r2 10 x (nj v)) 1551 0 = 0 → v ≤ 7 ∧ mI r 1551 0 = 0 := fun w => by
          rw [k_mI_wI] at w
          have := b6 w
          rw [a6, k_mI_sI (by omega)] at this
          exact ⟨this.1.2, this.2⟩
        generalize sI p2 785 22 (nj v) = p3 at *
        generalize wI r2 10 x (nj v) = r3 at *
        rcases h90_j (s0 := s0) (y2 := y2) h3 (by omega) with ⟨v', p', r', c1, c2, c3, c4, c5, c6, c7, c8, c9, c10⟩ | ⟨p', r', c1, c2, c3, c4⟩
        · left
          exact ⟨v', p', r', t + 1 + 1 + 3, c1, c2, c3, c4, z3.trans c5 (Nat.le_refl _), by omega, c6, c7, fun w => ⟨(c8 w).1, (e51 (c8 w).2).2⟩, by rw [c9 785 (by omega) (by omega), c10 10 (by omega), e785, e10], (fun q => absurd q z), fun _ w => ⟨v, by have := (e51 (c8 w).2).1; omega, by rw [c10 10 (by omega)]; exact e10⟩, fun f f1 f2 f3 => by rw [c9 f f1 f2, eo f f1 f3], fun y y1 y2 => by rw [c10 y y2, eA y y1]⟩
        · right
          exact ⟨p', r', c1, c2, c3, z3.trans c4 (Nat.le_refl _)⟩
      · right
        have b1' : P_Parser_takeInt 0 7 p1 = _ := b1
        have b2' : R_number 0 7 r1 = _ := b2
        obtain ⟨r'', g1, g2, g3⟩ := hz_go (F := fun m28 => gd (inb (nj x) 25) (vb (wI m28 10 (ix (nj x)) v) fun m34 => R_tellHead_96 (nj s0) y2 m34)) a3.p82 hx1 b3 b4 (fun d q hq hx' => by
          have h1 : Rf (wI r2 10 x v) d q := hq.wI
          rw [inb_nj (by omega), gd_t (decide_eq_true (by omega)), vb_e, ix_nj (by omega)]
          obtain ⟨r5, s1, s2, s3⟩ := h96_f (x1 := nj s0) (x2 := y2) h1 (by rw [k_mI_wI]; exact hx') hx2
          exact ⟨r5, s1, s2, Rh.trans (Rh.rfl.wI (by decide)) s3⟩)
        rw [b1', bn_s, if_pos rfl, b2', bn_s, hx1]
        exact ⟨p2, r'', rfl, g1, g2, a4.trans g3 (Nat.le_refl _)⟩
    · right
      have a1' : P_Parser_takeKind 45 p = _ := a1
      obtain ⟨r'', g1, g2, g3⟩ := hz_go (F := fun m24 => bn (R_number 0 7 m24) fun r27 m28 => gd (inb (mI m24 1588 0) 25) (vb (wI m28 10 (ix (mI m24 1588 0)) r27) fun m34 => R_tellHead_96 (nj s0) y2 m34)) h82 hx a3 a4 (fun d q hq hx' => by
        have h1 : Rf (wI r1 10 x 0) d q := hq.wI
        rw [number_f hq, bn_s, hx', inb_nj (by omega), gd_t (decide_eq_true (by omega)), vb_e, ix_nj (by omega)]
        obtain ⟨r5, s1, s2, s3⟩ := h96_f (x1 := nj s0) (x2 := y2) h1 (by rw [k_mI_wI]; exact hx') hx2
        exact ⟨r5, s1, s2, Rh.trans (Rh.rfl.wI (by decide)) s3⟩)
      rw [a1', bn_s, if_pos rfl, a2, bn_s]
      exact ⟨p1, r'', rfl, g1, g2, g3⟩
end Ph
