/-! Layer C: rows and cells -/
section Ro
variable {nc : Nat} {p r : Mem}
theorem R_row_49_e {x y z : Int32} {fc : Nat} (hf : fc < 160) : ∀ (d j fu : Nat) (r : Mem), mI r 1601 0 = nj fc → j + d = 48 → d < fu → R_row_49 fu x y z (nj j) r = R_row_78 x y z (fil r 49 (48 * fc + j) (48 * fc + 48) (-1))
  | 0, j, fu + 1, r, h1, hj, _ => by
    rw [R_row_49.eq_2]
    simp (disch := omega) only [nj_l_le]
    rw [if_pos (by omega), show 48 * fc + j = 48 * fc + 48 by omega, fil_nil]
  | d + 1, j, fu + 1, r, h1, hj, hfu => by
    rw [R_row_49.eq_2]
    simp (disch := omega) only [nj_l_le, h1, nj_l_mul, nj_add, inb_nj, ix_nj, vb_e, nj_add_l]
    rw [if_neg (by omega), gd_t (decide_eq_true (by omega)), R_row_49_e hf d (j + 1) fu (wI r 49 (48 * fc + j) (-1)) (by rw [k_mI_wI]; exact h1) (by omega) (by omega), ← Nat.add_assoc, fil_step (by omega)]
theorem dat_fil49 {j n : Nat} {v : Int32} : dat (fil r 49 j n v) = (fun x i => if x = 49 then (if j ≤ i ∧ i < n then v else (dat r).1 49 i) else (dat r).1 x i, (dat r).2) := by
  refine Prod.ext ?_ rfl
  funext x i
  unfold dat
  simp only [k_mI_fil]
  by_cases q : x = 49
  · subst q
    rw [k_aI_fil_e]
    have : msk (ix (mI r 1554 0)) 49 i = true := by unfold msk; simp
    simp only [this, if_true]
  · rw [k_aI_fil q, if_neg q]
theorem apF_49g {D : Dt} {s a b c v : Int32} {g h : Nat → Int32} : apF (fun x i => if x = 49 then h i else D.1 x i, D.2) s a b c v g = apF D s a b c v g := by
  refine Prod.ext ?_ rfl
  funext x i
  unfold apF
  by_cases q : x = 49
  · simp [q]
  · simp [q]
theorem st_row (h : Core nc p r) (L : Land p r) (x y z : Int32) : Told nc p r (P_row x y z p) (R_row x y z r) := by
  have hP := P_hasPerson_e L x
  have hfp := h.fc
  have hfr := h.rfc
  have h160 := h.f160
  by_cases q : (0 ≤ x ∧ x < mI r 1595 0) ∧ (0 ≤ y ∧ y ≤ 139) ∧ (z = -1 ∨ (1 ≤ z ∧ z ≤ 48))
  · obtain ⟨c1, c2, c3⟩ := q
    obtain ⟨n, hn, hz, hz2⟩ : ∃ n, n ≤ 48 ∧ (z = -1 ∧ n = 0 ∨ z = nj n) ∧ (z = -1 ∨ 1 ≤ n) := by
      rcases c3 with c3 | c3
      · exact ⟨0, by omega, Or.inl ⟨c3, rfl⟩, Or.inl c3⟩
      · obtain ⟨k, hk, rfl⟩ := nj_of (show 0 ≤ z by grind)
        rw [nj_l_le (by omega) (by omega), nj_le_l (by omega) (by omega)] at c3
        exact ⟨k, c3.2, Or.inr rfl, Or.inr c3.1⟩
    have e35 : P_row_35 x y z p = bn (P_Ledger_tellRow x y (nj n) p) fun a m => some (a, m) := by
      unfold P_row_35 P_row_51
      rcases hz with ⟨rfl, rfl⟩ | rfl
      · rfl
      · rw [if_neg (by rw [nj_ne_m1 (by omega)]; simp)]
    have eP : P_row x y z p = P_row_35 x y z p := by
      unfold P_row
      rcases c3 with c3 | c3
      · simp [hP, P_isDay_e, bn_s, bp_s, tI, c1, c2, c3]
      · simp [hP, P_isDay_e, P_within_e, bn_s, bp_s, tI, c1, c2, c3]
    have eR : (dat r).2.2 ≠ 160 → R_row x y z r = R_row_46 x y z r := by
      intro q
      unfold R_row
      rw [if_neg (by rw [hfr, nj_eq_l (by omega) (by omega)]; exact q)]
      rcases c3 with c3 | c3
      · simp [R_isPerson_e, R_in_e, bn_s, bp_s, tI, c1, c2, c3]
      · simp [R_isPerson_e, R_in_e, bn_s, bp_s, tI, c1, c2, c3]
    by_cases q2 : (dat r).2.2 = 160
    · rw [q2] at hfp
      refine ⟨-1, iniF (nw p 1 0 7) (mC p) 6 x y 0 0 n none, r, ?_, ?_, h.full, iniF_Ch.mono (fun _ h => absurd h List.not_mem_nil) (fun _ h => absurd h List.not_mem_nil) (fun _ h => h), Ch.rfl, ?_, ?_, Or.inl rfl⟩
      · rw [eP, e35, P_tellRow_full h.1.1 hfp hn, bn_s]
      · unfold R_row
        rw [if_pos (by rw [hfr, q2]; rfl)]
      · rw [iniF_C.1]; omega
      · rw [iniF_C.2]; omega
    · have q3 : (dat r).2.2 < 160 := by omega
      have h1' : mI (fil r 49 (48 * (dat r).2.2 + 0) (48 * (dat r).2.2 + 48) (-1)) 1601 0 = nj (dat r).2.2 := by rw [k_mI_fil]; exact hfr
      have eD := tldR_dat (s := 6) (a := x) (b := y) (c := 0) (v := z) h1' q3
      have eD2 : ∀ g, apF (dat (fil r 49 (48 * (dat r).2.2 + 0) (48 * (dat r).2.2 + 48) (-1))) 6 x y 0 z g = apF (dat r) 6 x y 0 z g := fun g => by rw [dat_fil49, apF_49g]
      rw [eD2] at eD
      have eG : ∀ i, (dat (fil r 49 (48 * (dat r).2.2 + 0) (48 * (dat r).2.2 + 48) (-1))).1 49 i = if 48 * (dat r).2.2 + 0 ≤ i ∧ i < 48 * (dat r).2.2 + 48 then -1 else (dat r).1 49 i := fun i => by rw [dat_fil49]; rfl
      have cR : Ch [1601, 1612, 1627] [44, 45, 46, 47, 48, 49] nil r (tldR (fil r 49 (48 * (dat r).2.2 + 0) (48 * (dat r).2.2 + 48) (-1)) (dat r).2.2 6 x y 0 z) := (ch_fil Ch.rfl (Or.inl (by decide))).trans tldR_Ch'
      refine ⟨nj (dat r).2.2, tldP p (dat r).2.2 6 x y 0 0 n none, tldR (fil r 49 (48 * (dat r).2.2 + 0) (48 * (dat r).2.2 + 48) (-1)) (dat r).2.2 6 x y 0 z, ?_, ?_, ?_, tldP_Ch, cR, ?_, ?_, Or.inr ⟨tldR_f.2.1, tldR_f.2.2.1⟩⟩
      · rw [eP, e35, P_tellRow_e h.1.1 hfp q3 hn, bn_s]
      · rw [eR q2]
        unfold R_row_46
        rw [show (0 : Int32) = nj 0 from rfl, R_row_49_e q3 48 0 FU r hfr (by omega) (by unfold FU; omega)]
        unfold R_row_78
        rw [R_fact_e h1' q3, bn_s]
        rfl
      · refine h.tell q3 (by decide) ?_ eD (tldR_f.2.2.2.trans k_mC_fil) tldR_f.1 (cR.i (by decide) (by have := h.2.1; omega)) (cR.i (by decide) (by have := h.2.1; omega)) ?_ (factAt_tld h.1 rfl rfl rfl (by simp) (by simp) (fun _ => ⟨rfl, hn, hz, fun w hw => ?_⟩) (by simp) (by simp))
        · intro i w hi hw
          rw [eG, if_neg (by omega)]
        · obtain ⟨to, fi, pe, h1, h2, h3, g1, g2, g3, g4, g5, g6, -⟩ := L
          rw [g6] at c1
          obtain ⟨k1, y1, z1⟩ := nj_in' (by omega) c1
          obtain ⟨k2, y2, z2⟩ := nj_in (n := 139) (by omega) c2
          unfold WF1
          rw [apF_44, apF_45, apF_46, apF_47, apF_48, apF_49]
          refine ⟨6, by omega, rfl, by omega, by omega, by omega, fun _ => ⟨k1, k2, by omega, by omega, z1, z2, ?_, fun w hw => ?_⟩, by omega, by omega, by omega⟩
          · rcases hz with ⟨hz, -⟩ | hz
            · exact Or.inl hz
            · rcases hz2 with hz2 | hz2
              · exact Or.inl hz2
              · exact Or.inr ⟨n, hz2, hn, hz⟩
          · rw [eG, if_pos (by omega)]
            decide
        · rw [eG, if_pos (by omega)]
      · rw [tldP_C.1]; omega
      · rw [tldP_C.2]; omega
  · refine ⟨-1, p, r, ?_, ?_, h, Ch.rfl, Ch.rfl, by omega, by omega, Or.inl rfl⟩
    · unfold P_row
      by_cases c1 : 0 ≤ x ∧ x < mI r 1595 0 <;> by_cases c2 : 0 ≤ y ∧ y ≤ 139 <;> by_cases c3 : z = -1 <;> by_cases c4 : 1 ≤ z ∧ z ≤ 48 <;> simp [hP, P_isDay_e, P_within_e, bn_s, bp_s, tI, c1, c2, c3, c4]
      · exact (q ⟨c1, c2, Or.inl c3⟩).elim
      · exact (q ⟨c1, c2, Or.inl c3⟩).elim
      · exact (q ⟨c1, c2, Or.inr c4⟩).elim
    · unfold R_row
      by_cases c0 : (mI r 1601 0) = 160
      · rw [if_pos c0]
      · rw [if_neg c0]
        by_cases c1 : 0 ≤ x ∧ x < mI r 1595 0 <;> by_cases c2 : 0 ≤ y ∧ y ≤ 139 <;> by_cases c3 : z = -1 <;> by_cases c4 : 1 ≤ z ∧ z ≤ 48 <;> simp [R_isPerson_e, R_in_e, bn_s, bp_s, tI, c1, c2, c3, c4]
        · exact (q ⟨c1, c2, Or.inl c3⟩).elim
        · exact (q ⟨c1, c2, Or.inl c3⟩).elim
        · exact (q ⟨c1, c2, Or.inr c4⟩).elim
end Ro
