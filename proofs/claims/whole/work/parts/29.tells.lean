/-! Layer C: the methods that tell a FACT -/
def Told (nc : Nat) (p r : Mem) (P R : Option (Int32 × Mem)) : Prop := ∃ v p' r', P = some (v, p') ∧ R = some (v, r') ∧ Core nc p' r' ∧ Ch [514] [14] nil p p' ∧ Ch [1601, 1612, 1627] [44, 45, 46, 47, 48, 49] nil r r' ∧ mC p' ≤ mC p + 2 ∧ mS p' ≤ mS p + 55 ∧ (r' = r ∨ (mI r' 1612 0 = -1 ∧ mI r' 1627 0 = -1))
section Td
variable {nc : Nat} {p r : Mem}
theorem Core.fc (h : Core nc p r) : mI p 514 13 = nj (dat r).2.2 := by
  obtain ⟨-, -, -, -, -, -, -, -, -, fa, ta, ia, sa, ca, od, L, hSc⟩ := h
  exact L.1.1
theorem Core.tc (h : Core nc p r) : mI p 515 13 = nj (dat r).2.1 := by
  obtain ⟨-, -, -, -, -, -, -, -, -, fa, ta, ia, sa, ca, od, L, hSc⟩ := h
  exact L.2.1.1
theorem Core.f160 (h : Core nc p r) : (dat r).2.2 ≤ 160 := h.2.2.1.2.1
theorem Core.rfc (h : Core nc p r) : mI r 1601 0 = nj (dat r).2.2 := h.2.2.2.2.1
theorem tldR_Ch' {fc : Nat} {s a b c v : Int32} : Ch [1601, 1612, 1627] [44, 45, 46, 47, 48, 49] nil r (tldR r fc s a b c v) := tldR_Ch.mono (fun _ h => h) (by decide) (fun _ h => h)
theorem told_of (h : Core nc p r) (Q : Prop) [Decidable Q] {P R : Option (Int32 × Mem)} {s a b c v b' c' v' : Int32} (hP : ¬ Q → P = some (-1, p)) (hR : ¬ Q → R = some (-1, r)) (hR1 : (dat r).2.2 = 160 → R = some (-1, r))
    (hP2 : Q → P = bn (P_Ledger_tell s a b' c' v' p) fun x m => some (x, m)) (hR2 : Q → (dat r).2.2 ≠ 160 → R = bn (R_fact s a b c v r) fun x m => some (x, m)) (h4 : 4 ≤ s) (h6 : s ≠ 6)
    (f4 : s = 4 → b' = b ∧ c' = c ∧ v' = v) (f5 : s = 5 ∨ s = 9 → b' = b ∧ v' = v) (f7 : s = 7 ∨ s = 8 → c' = b ∧ v' = v) (f10 : s = 10 → b' = b ∧ v' = c)
    (hw : Q → (dat r).2.2 < 160 → WF1 (apF (dat r) s a b c v ((dat r).1 49)) nc (dat r).2.2) : Told nc p r P R := by
  have hfp := h.fc
  have hfr := h.rfc
  have h160 := h.f160
  by_cases q : Q
  · by_cases q2 : (dat r).2.2 = 160
    · rw [q2] at hfp
      refine ⟨-1, iniF (nw p 1 0 7) (mC p) s a b' c' v' 0 none, r, ?_, hR1 q2, h.full, iniF_Ch.mono (fun _ h => absurd h List.not_mem_nil) (fun _ h => absurd h List.not_mem_nil) (fun _ h => h), Ch.rfl, ?_, ?_, Or.inl rfl⟩
      · rw [hP2 q, P_tell_full h.1.1 hfp, bn_s]
      · rw [iniF_C.1]; omega
      · rw [iniF_C.2]; omega
    · have q3 : (dat r).2.2 < 160 := by omega
      refine ⟨nj (dat r).2.2, tldP p (dat r).2.2 s a b' c' v' 0 none, tldR r (dat r).2.2 s a b c v, ?_, ?_, ?_, tldP_Ch, tldR_Ch', ?_, ?_, Or.inr ⟨tldR_f.2.1, tldR_f.2.2.1⟩⟩
      · rw [hP2 q, P_tell_e h.1.1 hfp q3, bn_s]
      · rw [hR2 q q2, R_fact_e hfr q3, bn_s]
      · exact h.tell (g := (dat r).1 49) q3 h4 (fun _ _ _ _ => rfl) (tldR_dat hfr q3) tldR_f.2.2.2 tldR_f.1 (tldR_Ch.i (by decide) (by have := h.2.1; omega)) (tldR_Ch.i (by decide) (by have := h.2.1; omega)) (hw q q3)
          (factAt_tld h.1 rfl rfl rfl f4 f5 (fun z => absurd z h6) f7 f10)
      · rw [tldP_C.1]; omega
      · rw [tldP_C.2]; omega
  · exact ⟨-1, p, r, hP q, hR q, h, Ch.rfl, Ch.rfl, by omega, by omega, Or.inl rfl⟩
theorem nj_in {x : Int32} {n : Nat} (hn : n < 2147483648) (h : 0 ≤ x ∧ x ≤ nj n) : ∃ k, k ≤ n ∧ x = nj k := by
  obtain ⟨k, hk, rfl⟩ := nj_of h.1
  have := h.2
  rw [nj_le (by omega) hn] at this
  exact ⟨k, this, rfl⟩
theorem nj_in' {x : Int32} {n : Nat} (hn : n < 2147483648) (h : 0 ≤ x ∧ x < nj n) : ∃ k, k < n ∧ x = nj k := by
  obtain ⟨k, hk, rfl⟩ := nj_of h.1
  have := h.2
  rw [nj_lt (by omega) hn] at this
  exact ⟨k, this, rfl⟩
theorem P_isQuarter_e (x : Int32) : P_isQuarter x = some (tI (decide (0 ≤ x ∧ x ≤ 3))) := by
  unfold P_isQuarter
  rw [P_within_e, bp_s, gz_tI]
theorem P_isDay_e (x : Int32) : P_isDay x = some (tI (decide (0 ≤ x ∧ x ≤ 139))) := by
  unfold P_isDay
  rw [P_within_e, bp_s, gz_tI]
theorem P_isWeek_e (x : Int32) : P_isWeek x = some (tI (decide (0 ≤ x ∧ x ≤ 19))) := by
  unfold P_isWeek
  rw [P_within_e, bp_s, gz_tI]
theorem st_price (h : Core nc p r) (L : Land p r) (x y z w : Int32) : Told nc p r (P_price x y z w p) (R_price x y z w r) := by
  have hP := P_hasTown_e L x
  have hfr := h.rfc
  have h160 := h.f160
  refine told_of h ((0 ≤ x ∧ x < mI r 1591 0) ∧ (0 ≤ y ∧ y ≤ 3) ∧ (0 ≤ z ∧ z ≤ 3) ∧ (0 ≤ w ∧ w ≤ 99)) (s := 4) (a := x) (b := y) (c := z) (v := w) (b' := y) (c' := z) (v' := w) ?_ ?_ ?_ ?_ ?_ (by decide) (by decide) (by simp) (by simp) (by simp) (by simp) ?_
  · intro q
    unfold P_price
    by_cases c1 : 0 ≤ x ∧ x < mI r 1591 0 <;> by_cases c2 : 0 ≤ y ∧ y ≤ 3 <;> by_cases c3 : 0 ≤ z ∧ z ≤ 3 <;> by_cases c4 : 0 ≤ w ∧ w ≤ 99 <;> simp [hP, P_isQuarter_e, P_within_e, bn_s, bp_s, tI, c1, c2, c3, c4]
    exact (q ⟨c1, c2, c3, c4⟩).elim
  · intro q
    unfold R_price
    by_cases c0 : (mI r 1601 0) = 160
    · rw [if_pos c0]
    · rw [if_neg c0]
      by_cases c1 : 0 ≤ x ∧ x < mI r 1591 0 <;> by_cases c2 : 0 ≤ y ∧ y ≤ 3 <;> by_cases c3 : 0 ≤ z ∧ z ≤ 3 <;> by_cases c4 : 0 ≤ w ∧ w ≤ 99 <;> simp [R_isTown_e, R_in_e, bn_s, bp_s, tI, c1, c2, c3, c4]
      exact (q ⟨c1, c2, c3, c4⟩).elim
  · intro q
    unfold R_price
    rw [if_pos (by rw [hfr, q]; rfl)]
  · rintro ⟨c1, c2, c3, c4⟩
    unfold P_price
    simp [hP, P_isQuarter_e, P_within_e, bn_s, bp_s, tI, c1, c2, c3, c4]
  · rintro ⟨c1, c2, c3, c4⟩ q
    unfold R_price
    rw [if_neg (by rw [hfr, nj_eq_l (by omega) (by omega)]; exact q)]
    simp [R_isTown_e, R_in_e, bn_s, bp_s, tI, c1, c2, c3, c4]
  · rintro ⟨c1, c2, c3, c4⟩ q
    obtain ⟨to, fi, pe, h1, h2, h3, e1, e2, -⟩ := L
    rw [e2] at c1
    obtain ⟨k1, y1, z1⟩ := nj_in' (by omega) c1
    obtain ⟨k2, y2, z2⟩ := nj_in (n := 3) (by omega) c2
    obtain ⟨k3, y3, z3⟩ := nj_in (n := 3) (by omega) c3
    obtain ⟨k4, y4, z4⟩ := nj_in (n := 99) (by omega) c4
    unfold WF1
    rw [apF_44, apF_45, apF_46, apF_47, apF_48]
    refine ⟨4, by omega, rfl, by omega, fun _ => ⟨k1, k2, k3, k4, by omega, by omega, by omega, by omega, z1, z2, z3, z4⟩, by omega, by omega, by omega, by omega, by omega⟩
theorem st_wet (h : Core nc p r) (L : Land p r) (x y w : Int32) : Told nc p r (P_wet x y w p) (R_wet x y w r) := by
  have hP := P_hasFirm_e L x
  have hfr := h.rfc
  have h160 := h.f160
  refine told_of h ((0 ≤ x ∧ x < mI r 1592 0) ∧ (0 ≤ y ∧ y ≤ 139) ∧ (0 ≤ w ∧ w ≤ 9)) (s := 5) (a := x) (b := y) (c := 0) (v := w) (b' := y) (c' := 0) (v' := w) ?_ ?_ ?_ ?_ ?_ (by decide) (by decide) (by simp) (by simp) (by simp) (by simp) ?_
  · intro q
    unfold P_wet
    by_cases c1 : 0 ≤ x ∧ x < mI r 1592 0 <;> by_cases c2 : 0 ≤ y ∧ y ≤ 139 <;> by_cases c4 : 0 ≤ w ∧ w ≤ 9 <;> simp [hP, P_isDay_e, P_within_e, bn_s, bp_s, tI, c1, c2, c4]
    exact (q ⟨c1, c2, c4⟩).elim
  · intro q
    unfold R_wet
    by_cases c0 : (mI r 1601 0) = 160
    · rw [if_pos c0]
    · rw [if_neg c0]
      by_cases c1 : 0 ≤ x ∧ x < mI r 1592 0 <;> by_cases c2 : 0 ≤ y ∧ y ≤ 139 <;> by_cases c4 : 0 ≤ w ∧ w ≤ 9 <;> simp [R_isFirm_e, R_in_e, bn_s, bp_s, tI, c1, c2, c4]
      exact (q ⟨c1, c2, c4⟩).elim
  · intro q
    unfold R_wet
    rw [if_pos (by rw [hfr, q]; rfl)]
  · rintro ⟨c1, c2, c4⟩
    unfold P_wet
    simp [hP, P_isDay_e, P_within_e, bn_s, bp_s, tI, c1, c2, c4]
  · rintro ⟨c1, c2, c4⟩ q
    unfold R_wet
    rw [if_neg (by rw [hfr, nj_eq_l (by omega) (by omega)]; exact q)]
    simp [R_isFirm_e, R_in_e, bn_s, bp_s, tI, c1, c2, c4]
  · rintro ⟨c1, c2, c4⟩ q
    obtain ⟨to, fi, pe, h1, h2, h3, e1, e2, e3, e4, -⟩ := L
    rw [e4] at c1
    obtain ⟨k1, y1, z1⟩ := nj_in' (by omega) c1
    obtain ⟨k2, y2, z2⟩ := nj_in (n := 139) (by omega) c2
    obtain ⟨k4, y4, z4⟩ := nj_in (n := 9) (by omega) c4
    unfold WF1
    rw [apF_44, apF_45, apF_46, apF_47, apF_48]
    refine ⟨5, by omega, rfl, by omega, by omega, fun _ => ⟨k1, k2, k4, by omega, by omega, by omega, z1, z2, z4⟩, by omega, by omega, by omega, by omega⟩
theorem st_paid (h : Core nc p r) (L : Land p r) (x y w : Int32) : Told nc p r (P_paid x y w p) (R_paid x y w r) := by
  have hP := P_hasPerson_e L x
  have hfr := h.rfc
  have h160 := h.f160
  refine told_of h ((0 ≤ x ∧ x < mI r 1595 0) ∧ (0 ≤ y ∧ y ≤ 19) ∧ (-99999 ≤ w ∧ w ≤ 99999)) (s := 9) (a := x) (b := y) (c := 0) (v := w) (b' := y) (c' := 0) (v' := w) ?_ ?_ ?_ ?_ ?_ (by decide) (by decide) (by simp) (by simp) (by simp) (by simp) ?_
  · intro q
    unfold P_paid
    by_cases c1 : 0 ≤ x ∧ x < mI r 1595 0 <;> by_cases c2 : 0 ≤ y ∧ y ≤ 19 <;> by_cases c4 : -99999 ≤ w ∧ w ≤ 99999 <;> simp [hP, P_isWeek_e, P_within_e, bn_s, bp_s, tI, c1, c2, c4]
    exact (q ⟨c1, c2, c4⟩).elim
  · intro q
    unfold R_paid
    by_cases c0 : (mI r 1601 0) = 160
    · rw [if_pos c0]
    · rw [if_neg c0]
      by_cases c1 : 0 ≤ x ∧ x < mI r 1595 0 <;> by_cases c2 : 0 ≤ y ∧ y ≤ 19 <;> by_cases c4 : -99999 ≤ w ∧ w ≤ 99999 <;> simp [R_isPerson_e, R_in_e, bn_s, bp_s, tI, c1, c2, c4]
      exact (q ⟨c1, c2, c4⟩).elim
  · intro q
    unfold R_paid
    rw [if_pos (by rw [hfr, q]; rfl)]
  · rintro ⟨c1, c2, c4⟩
    unfold P_paid
    simp [hP, P_isWeek_e, P_within_e, bn_s, bp_s, tI, c1, c2, c4]
  · rintro ⟨c1, c2, c4⟩ q
    unfold R_paid
    rw [if_neg (by rw [hfr, nj_eq_l (by omega) (by omega)]; exact q)]
    simp [R_isPerson_e, R_in_e, bn_s, bp_s, tI, c1, c2, c4]
  · rintro ⟨c1, c2, c4⟩ q
    obtain ⟨to, fi, pe, h1, h2, h3, e1, e2, e3, e4, e5, e6, -⟩ := L
    rw [e6] at c1
    obtain ⟨k1, y1, z1⟩ := nj_in' (by omega) c1
    obtain ⟨k2, y2, z2⟩ := nj_in (n := 19) (by omega) c2
    unfold WF1
    rw [apF_44, apF_45, apF_46, apF_47, apF_48]
    refine ⟨9, by omega, rfl, by omega, by omega, by omega, by omega, by omega, fun _ => ⟨k1, k2, by omega, by omega, z1, z2, c4.1, c4.2⟩, by omega⟩
/-- is the FACT x a TEXT? -/
abbrev isT (D : Dt) (x : Int32) : Prop := 0 ≤ x ∧ x < nj D.2.2 ∧ D.1 44 (ix x) < 4
theorem isT_k (W : WText (dat r) nc) (F : WFact (dat r) nc) {x : Int32} (h : isT (dat r) x) : ∃ f k, x = nj f ∧ f < (dat r).2.2 ∧ k < (dat r).2.1 ∧ (dat r).1 45 f = nj k ∧ (dat r).1 12 k = nj f ∧ (dat r).1 44 f = (dat r).1 8 k := by
  have w := W.2.1
  obtain ⟨f, hf, rfl⟩ := nj_in' (by omega) ⟨h.1, h.2.1⟩
  have h3 := h.2.2
  rw [ix_nj (by omega)] at h3
  obtain ⟨s, s1, s2, s3, -⟩ := F f hf
  rw [s2, nj_lt_l (by omega) (by omega)] at h3
  obtain ⟨k, k1, k2, k3⟩ := s3 h3
  refine ⟨f, k, rfl, hf, k1, k2, k3, ?_⟩
  obtain ⟨-, ⟨f', y2, y3, y4, y5⟩, -⟩ := W.2.2.1 k k1
  rw [k3, nj_inj (by omega) (by omega)] at y3
  subst y3
  exact y4
theorem dat_44 {x j : Nat} (h : 44 ≤ x ∧ x ≤ 49) : (dat r).1 x j = aI r x j := if_pos (by unfold msk; grind)
theorem R_textAt_e (h : Core nc p r) (x : Int32) : R_textAt x r = some (if isT (dat r) x then (dat r).1 45 (ix x) else -1, r) := by
  have hfr := h.rfc
  have h160 := h.f160
  unfold R_textAt
  by_cases q : isT (dat r) x
  · rw [if_pos q]
    obtain ⟨f, k, rfl, h2, h3, h4, h5, h6⟩ := isT_k h.2.2.1 h.2.2.2.1 q
    have q3 := q.2.2
    rw [ix_nj (by omega), dat_44 (by omega)] at q3
    simp (disch := omega) only [hfr, nj_nneg, nj_le, inb_nj, ix_nj, if_false]
    rw [if_neg (by omega), gd_t (decide_eq_true (by omega)), if_neg (Int32.not_le.mpr q3), gd_t (decide_eq_true (by omega)), dat_44 (by omega)]
  · rw [if_neg q]
    by_cases q1 : x < 0
    · rw [if_pos q1]
    · rw [if_neg q1]
      by_cases q2 : mI r 1601 0 ≤ x
      · rw [if_pos q2]
      · have q1' := Int32.not_lt.mp q1
        have q2' := Int32.not_le.mp q2
        rw [hfr] at q2'
        obtain ⟨f, hf, rfl⟩ := nj_in' (by omega) ⟨q1', q2'⟩
        rw [if_neg q2]
        simp (disch := omega) only [inb_nj, ix_nj]
        rw [gd_t (decide_eq_true (by omega)), if_pos]
        refine Int32.not_lt.mp fun z => q ⟨q1', q2', ?_⟩
        rw [ix_nj (by omega), dat_44 (by omega)]
        exact z
variable {fa ta ia sa ca : Nat → Nat} {od : List Nat}
theorem P_factAt_e {D : Dt} (L : LFact fa ta p D) (h160 : D.2.2 ≤ 160) (x : Int32) : P_Ledger_factAt x p = some (if 0 ≤ x ∧ x < nj D.2.2 then some (fa (ix x)) else none, p) := by
  unfold P_Ledger_factAt
  rw [P_within_e, bp_s, L.1]
  simp only [has_e (nj_0le (k := D.2.2) (by omega)) (nj_ub (k := D.2.2) (b := 1000) (by omega) (by omega)), tI_0]
  by_cases q : 0 ≤ x ∧ x < nj D.2.2
  · obtain ⟨f, hf, rfl⟩ := nj_in' (by omega) q
    rw [if_pos q, if_neg (by simp [q]), inb_nj (by omega), gd_t (decide_eq_true (by omega)), ix_nj (by omega), (L.2 f hf).1]
  · rw [if_neg q, if_pos (by simp [q])]
theorem P_textAt_e {D : Dt} (L : LFact fa ta p D) (h160 : D.2.2 ≤ 160) (x n : Int32) (hn : n ≤ nj D.2.2) : P_Ledger_textAt x n p = some (if x < n ∧ isT D x then some (ta (ix (D.1 45 (ix x)))) else none, p) := by
  unfold P_Ledger_textAt
  by_cases q1 : n ≤ x
  · rw [if_pos q1, if_neg (fun z => absurd z.1 (Int32.not_lt.mpr q1))]
    rfl
  · have q1' := Int32.not_le.mp q1
    rw [if_neg q1, P_factAt_e L h160, bn_s]
    by_cases q2 : 0 ≤ x ∧ x < nj D.2.2
    · obtain ⟨f, hf, rfl⟩ := nj_in' (by omega) q2
      obtain ⟨z1, z2, z3, -⟩ := L.2 f hf
      rw [if_pos q2]
      have ei : ix (nj f) = f := ix_nj (by omega)
      unfold P_Ledger_textAt_14
      rw [if_neg (by simp), gs_s]
      by_cases q3 : D.1 44 f < 4
      · rw [if_pos ⟨q1', q2.1, q2.2, by rw [ei]; exact q3⟩, ei, gt_t z2.2.1, z3 q3]
      · rw [if_neg (fun z => q3 (by have := z.2.2.2; rw [ei] at this; exact this)), ei, gt_t z2.2.1, (z2.2.2.2.2.2.1 (Int32.not_lt.mp q3)).1]
    · rw [if_neg q2, if_neg (fun z => q2 ⟨z.2.1, z.2.2.1⟩)]
      rfl
end Td
