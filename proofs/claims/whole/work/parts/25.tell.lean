/-! Layer C: a FACT is added, on both sides -/
def apF (D : Dt) (s a b c v : Int32) (g : Nat → Int32) : Dt := (fun x j => if x = 49 then g j else if j = D.2.2 then (if x = 44 then s else if x = 45 then a else if x = 46 then b else if x = 47 then c else if x = 48 then v else D.1 x j) else D.1 x j, D.2.1, D.2.2 + 1)
theorem apF_o {D : Dt} {s a b c v : Int32} {g : Nat → Int32} {x j : Nat} (h : j ≠ D.2.2 ∨ x < 44) (hx : x ≠ 49) : (apF D s a b c v g).1 x j = D.1 x j := by
  unfold apF
  show (if x = 49 then g j else if j = D.2.2 then _ else D.1 x j) = _
  rw [if_neg hx]
  by_cases q : j = D.2.2
  · have : x < 44 := by omega
    rw [if_pos q, if_neg (by omega), if_neg (by omega), if_neg (by omega), if_neg (by omega), if_neg (by omega)]
  · rw [if_neg q]
theorem apF_49 {D : Dt} {s a b c v : Int32} {g : Nat → Int32} : (apF D s a b c v g).1 49 = g := by
  funext j
  simp [apF]
theorem apF_44 {D : Dt} {s a b c v : Int32} {g : Nat → Int32} : (apF D s a b c v g).1 44 D.2.2 = s := by simp [apF]
theorem apF_45 {D : Dt} {s a b c v : Int32} {g : Nat → Int32} : (apF D s a b c v g).1 45 D.2.2 = a := by simp [apF]
theorem apF_46 {D : Dt} {s a b c v : Int32} {g : Nat → Int32} : (apF D s a b c v g).1 46 D.2.2 = b := by simp [apF]
theorem apF_47 {D : Dt} {s a b c v : Int32} {g : Nat → Int32} : (apF D s a b c v g).1 47 D.2.2 = c := by simp [apF]
theorem apF_48 {D : Dt} {s a b c v : Int32} {g : Nat → Int32} : (apF D s a b c v g).1 48 D.2.2 = v := by simp [apF]
theorem apF_t {D : Dt} {s a b c v : Int32} {g : Nat → Int32} : (apF D s a b c v g).2.1 = D.2.1 := id rfl
theorem apF_f {D : Dt} {s a b c v : Int32} {g : Nat → Int32} : (apF D s a b c v g).2.2 = D.2.2 + 1 := id rfl
/-- the reference's row of a FACT -/
def tldR (r : Mem) (fc : Nat) (s a b c v : Int32) : Mem := sI (sI (sI (wI (wI (wI (wI (wI r 44 fc s) 45 fc a) 46 fc b) 47 fc c) 48 fc v) 1601 0 (nj (fc + 1))) 1612 0 (-1)) 1627 0 (-1)
theorem R_fact_e {r : Mem} {fc : Nat} {s a b c v : Int32} (h : mI r 1601 0 = nj fc) (hf : fc < 160) : R_fact s a b c v r = some (nj fc, tldR r fc s a b c v) := by
  unfold R_fact tldR
  simp (disch := omega) [k_aI_wI_e, k_aI_wI, k_aI_wL, k_aI_wR, k_aI_sI, k_aI_sL, k_aI_sR, k_aI_nw, k_aL_wL_e, k_aL_wL, k_aL_wI, k_aL_wR, k_aL_sI, k_aL_sL, k_aL_sR, k_aL_nw, k_aR_wR_e, k_aR_wR, k_aR_wI, k_aR_wL, k_aR_sI, k_aR_sL, k_aR_sR, k_aR_nw, k_mI_sI_e, k_mI_sI, k_mI_wI, k_mI_wL, k_mI_wR, k_mI_sL, k_mI_sR, k_mI_nw, k_mL_sL_e, k_mL_sL, k_mL_wI, k_mL_wL, k_mL_wR, k_mL_sI, k_mL_sR, k_mL_nw, k_mR_sR_e, k_mR_sR, k_mR_wI, k_mR_wL, k_mR_wR, k_mR_sI, k_mR_sL, k_mR_nw, k_mT_wI, k_mT_wL, k_mT_wR, k_mT_sI, k_mT_sL, k_mT_sR, k_mT_nw, k_mN_wI, k_mN_wL, k_mN_wR, k_mN_sI, k_mN_sL, k_mN_sR, k_mN_nw, k_mC_wI, k_mC_wL, k_mC_wR, k_mC_sI, k_mC_sL, k_mC_sR, k_mC_nw, k_mS_wI, k_mS_wL, k_mS_wR, k_mS_sI, k_mS_sL, k_mS_sR, k_mS_nw, k_zF_1, k_zF_3, k_zF_11, k_zF_32, k_zF_36, k_zA_1, k_zA_3, k_zA_11, k_zA_32, k_zA_36, k_mT_fil, k_mN_fil, k_mI_fil, k_mL_fil, k_mR_fil, k_aL_fil, k_aR_fil, k_mC_fil, k_mS_fil, k_aI_fil_e, k_aI_fil, up1_ap, vb_e, h, inb_nj, ix_nj, gd_tt, bn_s, R_changed_e, nj_add_l, nj_sub_l, hf]
theorem tldR_Ch {r : Mem} {fc : Nat} {s a b c v : Int32} : Ch [1601, 1612, 1627] [44, 45, 46, 47, 48] nil r (tldR r fc s a b c v) :=
  (((((((Ch.rfl.wI (Or.inl (by decide))).wI (Or.inl (by decide))).wI (Or.inl (by decide))).wI (Or.inl (by decide))).wI (Or.inl (by decide))).sI (by decide)).sI (by decide)).sI (by decide)
theorem tldR_f {r : Mem} {fc : Nat} {s a b c v : Int32} : mI (tldR r fc s a b c v) 1601 0 = nj (fc + 1) ∧ mI (tldR r fc s a b c v) 1612 0 = -1 ∧ mI (tldR r fc s a b c v) 1627 0 = -1 ∧ mC (tldR r fc s a b c v) = mC r := by
  unfold tldR
  simp [k_aI_wI_e, k_aI_wI, k_aI_wL, k_aI_wR, k_aI_sI, k_aI_sL, k_aI_sR, k_aI_nw, k_aL_wL_e, k_aL_wL, k_aL_wI, k_aL_wR, k_aL_sI, k_aL_sL, k_aL_sR, k_aL_nw, k_aR_wR_e, k_aR_wR, k_aR_wI, k_aR_wL, k_aR_sI, k_aR_sL, k_aR_sR, k_aR_nw, k_mI_sI_e, k_mI_sI, k_mI_wI, k_mI_wL, k_mI_wR, k_mI_sL, k_mI_sR, k_mI_nw, k_mL_sL_e, k_mL_sL, k_mL_wI, k_mL_wL, k_mL_wR, k_mL_sI, k_mL_sR, k_mL_nw, k_mR_sR_e, k_mR_sR, k_mR_wI, k_mR_wL, k_mR_wR, k_mR_sI, k_mR_sL, k_mR_nw, k_mT_wI, k_mT_wL, k_mT_wR, k_mT_sI, k_mT_sL, k_mT_sR, k_mT_nw, k_mN_wI, k_mN_wL, k_mN_wR, k_mN_sI, k_mN_sL, k_mN_sR, k_mN_nw, k_mC_wI, k_mC_wL, k_mC_wR, k_mC_sI, k_mC_sL, k_mC_sR, k_mC_nw, k_mS_wI, k_mS_wL, k_mS_wR, k_mS_sI, k_mS_sL, k_mS_sR, k_mS_nw, k_zF_1, k_zF_3, k_zF_11, k_zF_32, k_zF_36, k_zA_1, k_zA_3, k_zA_11, k_zA_32, k_zA_36, k_mT_fil, k_mN_fil, k_mI_fil, k_mL_fil, k_mR_fil, k_aL_fil, k_aR_fil, k_mC_fil, k_mS_fil, k_aI_fil_e, k_aI_fil, up1_ap]
theorem tldR_dat {r : Mem} {fc : Nat} {s a b c v : Int32} (h : mI r 1601 0 = nj fc) (hf : fc < 160) : dat (tldR r fc s a b c v) = apF (dat r) s a b c v ((dat r).1 49) := by
  have e1 : (dat r).2.2 = fc := by show ix (mI r 1601 0) = fc; rw [h, ix_nj (by omega)]
  have e2 : mI (tldR r fc s a b c v) 1554 0 = mI r 1554 0 := by unfold tldR; simp [k_aI_wI_e, k_aI_wI, k_aI_wL, k_aI_wR, k_aI_sI, k_aI_sL, k_aI_sR, k_aI_nw, k_aL_wL_e, k_aL_wL, k_aL_wI, k_aL_wR, k_aL_sI, k_aL_sL, k_aL_sR, k_aL_nw, k_aR_wR_e, k_aR_wR, k_aR_wI, k_aR_wL, k_aR_sI, k_aR_sL, k_aR_sR, k_aR_nw, k_mI_sI_e, k_mI_sI, k_mI_wI, k_mI_wL, k_mI_wR, k_mI_sL, k_mI_sR, k_mI_nw, k_mL_sL_e, k_mL_sL, k_mL_wI, k_mL_wL, k_mL_wR, k_mL_sI, k_mL_sR, k_mL_nw, k_mR_sR_e, k_mR_sR, k_mR_wI, k_mR_wL, k_mR_wR, k_mR_sI, k_mR_sL, k_mR_nw, k_mT_wI, k_mT_wL, k_mT_wR, k_mT_sI, k_mT_sL, k_mT_sR, k_mT_nw, k_mN_wI, k_mN_wL, k_mN_wR, k_mN_sI, k_mN_sL, k_mN_sR, k_mN_nw, k_mC_wI, k_mC_wL, k_mC_wR, k_mC_sI, k_mC_sL, k_mC_sR, k_mC_nw, k_mS_wI, k_mS_wL, k_mS_wR, k_mS_sI, k_mS_sL, k_mS_sR, k_mS_nw, k_zF_1, k_zF_3, k_zF_11, k_zF_32, k_zF_36, k_zA_1, k_zA_3, k_zA_11, k_zA_32, k_zA_36, k_mT_fil, k_mN_fil, k_mI_fil, k_mL_fil, k_mR_fil, k_aL_fil, k_aR_fil, k_mC_fil, k_mS_fil, k_aI_fil_e, k_aI_fil]
  refine Prod.ext ?_ (Prod.ext ?_ ?_)
  · funext x j
    by_cases q49 : x = 49
    · subst q49
      rw [apF_49]
      unfold dat
      simp only [e2]
      rw [show aI (tldR r fc s a b c v) 49 = aI r 49 from by unfold tldR; simp [k_aI_wI_e, k_aI_wI, k_aI_wL, k_aI_wR, k_aI_sI, k_aI_sL, k_aI_sR, k_aI_nw, k_aL_wL_e, k_aL_wL, k_aL_wI, k_aL_wR, k_aL_sI, k_aL_sL, k_aL_sR, k_aL_nw, k_aR_wR_e, k_aR_wR, k_aR_wI, k_aR_wL, k_aR_sI, k_aR_sL, k_aR_sR, k_aR_nw, k_mI_sI_e, k_mI_sI, k_mI_wI, k_mI_wL, k_mI_wR, k_mI_sL, k_mI_sR, k_mI_nw, k_mL_sL_e, k_mL_sL, k_mL_wI, k_mL_wL, k_mL_wR, k_mL_sI, k_mL_sR, k_mL_nw, k_mR_sR_e, k_mR_sR, k_mR_wI, k_mR_wL, k_mR_wR, k_mR_sI, k_mR_sL, k_mR_nw, k_mT_wI, k_mT_wL, k_mT_wR, k_mT_sI, k_mT_sL, k_mT_sR, k_mT_nw, k_mN_wI, k_mN_wL, k_mN_wR, k_mN_sI, k_mN_sL, k_mN_sR, k_mN_nw, k_mC_wI, k_mC_wL, k_mC_wR, k_mC_sI, k_mC_sL, k_mC_sR, k_mC_nw, k_mS_wI, k_mS_wL, k_mS_wR, k_mS_sI, k_mS_sL, k_mS_sR, k_mS_nw, k_zF_1, k_zF_3, k_zF_11, k_zF_32, k_zF_36, k_zA_1, k_zA_3, k_zA_11, k_zA_32, k_zA_36, k_mT_fil, k_mN_fil, k_mI_fil, k_mL_fil, k_mR_fil, k_aL_fil, k_aR_fil, k_mC_fil, k_mS_fil, k_aI_fil_e, k_aI_fil]]
    by_cases q : 44 ≤ x ∧ x ≤ 48
    · have hm : ∀ tc, msk tc x j = true := fun tc => by
        unfold msk
        grind
      have e3 : (dat (tldR r fc s a b c v)).1 x j = aI (tldR r fc s a b c v) x j := if_pos (hm _)
      have e4 : (dat r).1 x j = aI r x j := if_pos (hm _)
      rw [e3]
      by_cases qj : j = fc
      · subst qj
        have : x = 44 ∨ x = 45 ∨ x = 46 ∨ x = 47 ∨ x = 48 := by omega
        rcases this with rfl | rfl | rfl | rfl | rfl
        · rw [← e1, apF_44, e1]; unfold tldR; simp [k_aI_wI_e, k_aI_wI, k_aI_wL, k_aI_wR, k_aI_sI, k_aI_sL, k_aI_sR, k_aI_nw, k_aL_wL_e, k_aL_wL, k_aL_wI, k_aL_wR, k_aL_sI, k_aL_sL, k_aL_sR, k_aL_nw, k_aR_wR_e, k_aR_wR, k_aR_wI, k_aR_wL, k_aR_sI, k_aR_sL, k_aR_sR, k_aR_nw, k_mI_sI_e, k_mI_sI, k_mI_wI, k_mI_wL, k_mI_wR, k_mI_sL, k_mI_sR, k_mI_nw, k_mL_sL_e, k_mL_sL, k_mL_wI, k_mL_wL, k_mL_wR, k_mL_sI, k_mL_sR, k_mL_nw, k_mR_sR_e, k_mR_sR, k_mR_wI, k_mR_wL, k_mR_wR, k_mR_sI, k_mR_sL, k_mR_nw, k_mT_wI, k_mT_wL, k_mT_wR, k_mT_sI, k_mT_sL, k_mT_sR, k_mT_nw, k_mN_wI, k_mN_wL, k_mN_wR, k_mN_sI, k_mN_sL, k_mN_sR, k_mN_nw, k_mC_wI, k_mC_wL, k_mC_wR, k_mC_sI, k_mC_sL, k_mC_sR, k_mC_nw, k_mS_wI, k_mS_wL, k_mS_wR, k_mS_sI, k_mS_sL, k_mS_sR, k_mS_nw, k_zF_1, k_zF_3, k_zF_11, k_zF_32, k_zF_36, k_zA_1, k_zA_3, k_zA_11, k_zA_32, k_zA_36, k_mT_fil, k_mN_fil, k_mI_fil, k_mL_fil, k_mR_fil, k_aL_fil, k_aR_fil, k_mC_fil, k_mS_fil, k_aI_fil_e, k_aI_fil, up1_ap]
        · rw [← e1, apF_45, e1]; unfold tldR; simp [k_aI_wI_e, k_aI_wI, k_aI_wL, k_aI_wR, k_aI_sI, k_aI_sL, k_aI_sR, k_aI_nw, k_aL_wL_e, k_aL_wL, k_aL_wI, k_aL_wR, k_aL_sI, k_aL_sL, k_aL_sR, k_aL_nw, k_aR_wR_e, k_aR_wR, k_aR_wI, k_aR_wL, k_aR_sI, k_aR_sL, k_aR_sR, k_aR_nw, k_mI_sI_e, k_mI_sI, k_mI_wI, k_mI_wL, k_mI_wR, k_mI_sL, k_mI_sR, k_mI_nw, k_mL_sL_e, k_mL_sL, k_mL_wI, k_mL_wL, k_mL_wR, k_mL_sI, k_mL_sR, k_mL_nw, k_mR_sR_e, k_mR_sR, k_mR_wI, k_mR_wL, k_mR_wR, k_mR_sI, k_mR_sL, k_mR_nw, k_mT_wI, k_mT_wL, k_mT_wR, k_mT_sI, k_mT_sL, k_mT_sR, k_mT_nw, k_mN_wI, k_mN_wL, k_mN_wR, k_mN_sI, k_mN_sL, k_mN_sR, k_mN_nw, k_mC_wI, k_mC_wL, k_mC_wR, k_mC_sI, k_mC_sL, k_mC_sR, k_mC_nw, k_mS_wI, k_mS_wL, k_mS_wR, k_mS_sI, k_mS_sL, k_mS_sR, k_mS_nw, k_zF_1, k_zF_3, k_zF_11, k_zF_32, k_zF_36, k_zA_1, k_zA_3, k_zA_11, k_zA_32, k_zA_36, k_mT_fil, k_mN_fil, k_mI_fil, k_mL_fil, k_mR_fil, k_aL_fil, k_aR_fil, k_mC_fil, k_mS_fil, k_aI_fil_e, k_aI_fil, up1_ap]
        · rw [← e1, apF_46, e1]; unfold tldR; simp [k_aI_wI_e, k_aI_wI, k_aI_wL, k_aI_wR, k_aI_sI, k_aI_sL, k_aI_sR, k_aI_nw, k_aL_wL_e, k_aL_wL, k_aL_wI, k_aL_wR, k_aL_sI, k_aL_sL, k_aL_sR, k_aL_nw, k_aR_wR_e, k_aR_wR, k_aR_wI, k_aR_wL, k_aR_sI, k_aR_sL, k_aR_sR, k_aR_nw, k_mI_sI_e, k_mI_sI, k_mI_wI, k_mI_wL, k_mI_wR, k_mI_sL, k_mI_sR, k_mI_nw, k_mL_sL_e, k_mL_sL, k_mL_wI, k_mL_wL, k_mL_wR, k_mL_sI, k_mL_sR, k_mL_nw, k_mR_sR_e, k_mR_sR, k_mR_wI, k_mR_wL, k_mR_wR, k_mR_sI, k_mR_sL, k_mR_nw, k_mT_wI, k_mT_wL, k_mT_wR, k_mT_sI, k_mT_sL, k_mT_sR, k_mT_nw, k_mN_wI, k_mN_wL, k_mN_wR, k_mN_sI, k_mN_sL, k_mN_sR, k_mN_nw, k_mC_wI, k_mC_wL, k_mC_wR, k_mC_sI, k_mC_sL, k_mC_sR, k_mC_nw, k_mS_wI, k_mS_wL, k_mS_wR, k_mS_sI, k_mS_sL, k_mS_sR, k_mS_nw, k_zF_1, k_zF_3, k_zF_11, k_zF_32, k_zF_36, k_zA_1, k_zA_3, k_zA_11, k_zA_32, k_zA_36, k_mT_fil, k_mN_fil, k_mI_fil, k_mL_fil, k_mR_fil, k_aL_fil, k_aR_fil, k_mC_fil, k_mS_fil, k_aI_fil_e, k_aI_fil, up1_ap]
        · rw [← e1, apF_47, e1]; unfold tldR; simp [k_aI_wI_e, k_aI_wI, k_aI_wL, k_aI_wR, k_aI_sI, k_aI_sL, k_aI_sR, k_aI_nw, k_aL_wL_e, k_aL_wL, k_aL_wI, k_aL_wR, k_aL_sI, k_aL_sL, k_aL_sR, k_aL_nw, k_aR_wR_e, k_aR_wR, k_aR_wI, k_aR_wL, k_aR_sI, k_aR_sL, k_aR_sR, k_aR_nw, k_mI_sI_e, k_mI_sI, k_mI_wI, k_mI_wL, k_mI_wR, k_mI_sL, k_mI_sR, k_mI_nw, k_mL_sL_e, k_mL_sL, k_mL_wI, k_mL_wL, k_mL_wR, k_mL_sI, k_mL_sR, k_mL_nw, k_mR_sR_e, k_mR_sR, k_mR_wI, k_mR_wL, k_mR_wR, k_mR_sI, k_mR_sL, k_mR_nw, k_mT_wI, k_mT_wL, k_mT_wR, k_mT_sI, k_mT_sL, k_mT_sR, k_mT_nw, k_mN_wI, k_mN_wL, k_mN_wR, k_mN_sI, k_mN_sL, k_mN_sR, k_mN_nw, k_mC_wI, k_mC_wL, k_mC_wR, k_mC_sI, k_mC_sL, k_mC_sR, k_mC_nw, k_mS_wI, k_mS_wL, k_mS_wR, k_mS_sI, k_mS_sL, k_mS_sR, k_mS_nw, k_zF_1, k_zF_3, k_zF_11, k_zF_32, k_zF_36, k_zA_1, k_zA_3, k_zA_11, k_zA_32, k_zA_36, k_mT_fil, k_mN_fil, k_mI_fil, k_mL_fil, k_mR_fil, k_aL_fil, k_aR_fil, k_mC_fil, k_mS_fil, k_aI_fil_e, k_aI_fil, up1_ap]
        · rw [← e1, apF_48, e1]; unfold tldR; simp [k_aI_wI_e, k_aI_wI, k_aI_wL, k_aI_wR, k_aI_sI, k_aI_sL, k_aI_sR, k_aI_nw, k_aL_wL_e, k_aL_wL, k_aL_wI, k_aL_wR, k_aL_sI, k_aL_sL, k_aL_sR, k_aL_nw, k_aR_wR_e, k_aR_wR, k_aR_wI, k_aR_wL, k_aR_sI, k_aR_sL, k_aR_sR, k_aR_nw, k_mI_sI_e, k_mI_sI, k_mI_wI, k_mI_wL, k_mI_wR, k_mI_sL, k_mI_sR, k_mI_nw, k_mL_sL_e, k_mL_sL, k_mL_wI, k_mL_wL, k_mL_wR, k_mL_sI, k_mL_sR, k_mL_nw, k_mR_sR_e, k_mR_sR, k_mR_wI, k_mR_wL, k_mR_wR, k_mR_sI, k_mR_sL, k_mR_nw, k_mT_wI, k_mT_wL, k_mT_wR, k_mT_sI, k_mT_sL, k_mT_sR, k_mT_nw, k_mN_wI, k_mN_wL, k_mN_wR, k_mN_sI, k_mN_sL, k_mN_sR, k_mN_nw, k_mC_wI, k_mC_wL, k_mC_wR, k_mC_sI, k_mC_sL, k_mC_sR, k_mC_nw, k_mS_wI, k_mS_wL, k_mS_wR, k_mS_sI, k_mS_sL, k_mS_sR, k_mS_nw, k_zF_1, k_zF_3, k_zF_11, k_zF_32, k_zF_36, k_zA_1, k_zA_3, k_zA_11, k_zA_32, k_zA_36, k_mT_fil, k_mN_fil, k_mI_fil, k_mL_fil, k_mR_fil, k_aL_fil, k_aR_fil, k_mC_fil, k_mS_fil, k_aI_fil_e, k_aI_fil, up1_ap]
      · rw [apF_o (Or.inl (by rw [e1]; exact qj)) q49, e4]
        have : x = 44 ∨ x = 45 ∨ x = 46 ∨ x = 47 ∨ x = 48 := by omega
        rcases this with rfl | rfl | rfl | rfl | rfl <;> unfold tldR <;> simp [k_aI_wI_e, k_aI_wI, k_aI_wL, k_aI_wR, k_aI_sI, k_aI_sL, k_aI_sR, k_aI_nw, k_aL_wL_e, k_aL_wL, k_aL_wI, k_aL_wR, k_aL_sI, k_aL_sL, k_aL_sR, k_aL_nw, k_aR_wR_e, k_aR_wR, k_aR_wI, k_aR_wL, k_aR_sI, k_aR_sL, k_aR_sR, k_aR_nw, k_mI_sI_e, k_mI_sI, k_mI_wI, k_mI_wL, k_mI_wR, k_mI_sL, k_mI_sR, k_mI_nw, k_mL_sL_e, k_mL_sL, k_mL_wI, k_mL_wL, k_mL_wR, k_mL_sI, k_mL_sR, k_mL_nw, k_mR_sR_e, k_mR_sR, k_mR_wI, k_mR_wL, k_mR_wR, k_mR_sI, k_mR_sL, k_mR_nw, k_mT_wI, k_mT_wL, k_mT_wR, k_mT_sI, k_mT_sL, k_mT_sR, k_mT_nw, k_mN_wI, k_mN_wL, k_mN_wR, k_mN_sI, k_mN_sL, k_mN_sR, k_mN_nw, k_mC_wI, k_mC_wL, k_mC_wR, k_mC_sI, k_mC_sL, k_mC_sR, k_mC_nw, k_mS_wI, k_mS_wL, k_mS_wR, k_mS_sI, k_mS_sL, k_mS_sR, k_mS_nw, k_zF_1, k_zF_3, k_zF_11, k_zF_32, k_zF_36, k_zA_1, k_zA_3, k_zA_11, k_zA_32, k_zA_36, k_mT_fil, k_mN_fil, k_mI_fil, k_mL_fil, k_mR_fil, k_aL_fil, k_aR_fil, k_mC_fil, k_mS_fil, k_aI_fil_e, k_aI_fil, up1_ap, qj]
    · have e3 : aI (tldR r fc s a b c v) x = aI r x := by
        unfold tldR
        simp only [k_aI_sI]
        rw [k_aI_wI (by omega), k_aI_wI (by omega), k_aI_wI (by omega), k_aI_wI (by omega), k_aI_wI (by omega)]
      have e5 : (apF (dat r) s a b c v ((dat r).1 49)).1 x j = (dat r).1 x j := by
        unfold apF
        show (if x = 49 then _ else if j = (dat r).2.2 then _ else (dat r).1 x j) = _
        rw [if_neg q49]
        by_cases qj : j = (dat r).2.2
        · rw [if_pos qj, if_neg (by omega), if_neg (by omega), if_neg (by omega), if_neg (by omega), if_neg (by omega)]
        · rw [if_neg qj]
      rw [e5]
      unfold dat
      simp only [e2, e3]
  · show ix (mI (tldR r fc s a b c v) 1554 0) = ix (mI r 1554 0)
    rw [e2]
  · show ix (mI (tldR r fc s a b c v) 1601 0) = ix (mI r 1601 0) + 1
    rw [tldR_f.1, h, ix_nj (by omega), ix_nj (by omega)]
theorem jmax0 {n : Nat} (h : n < 2147483648) : jmax 0 (nj n) = nj n := by
  unfold jmax
  simp only [nj_l_lt h (show (0 : Nat) < 2147483648 by omega)]
  by_cases q : n = 0
  · subst q; rfl
  · rw [if_pos (by omega)]
/-- the class's object of a FACT -/
def tldP (p : Mem) (fc : Nat) (s a b c v : Int32) (n : Nat) (x : Option Nat) : Mem := sI (wR (iniF (nw p 1 0 7) (mC p) s a b c v n x) 14 fc (some (mC p))) 514 13 (nj (fc + 1))
theorem mT_mk {p : Mem} : mT (nw p 1 0 7) (mC p) = 1 := by rw [k_mT_nw]; exact up1_eq
theorem P_add_e {m : Mem} {fc a : Nat} (h : mI m 514 13 = nj fc) (hf : fc < 160) (ht : mT m a = 1) : P_Ledger_add (some a) m = some (nj fc, sI (wR m 14 fc (some a)) 514 13 (nj (fc + 1))) := by
  unfold P_Ledger_add
  simp (disch := omega) [k_aI_wI_e, k_aI_wI, k_aI_wL, k_aI_wR, k_aI_sI, k_aI_sL, k_aI_sR, k_aI_nw, k_aL_wL_e, k_aL_wL, k_aL_wI, k_aL_wR, k_aL_sI, k_aL_sL, k_aL_sR, k_aL_nw, k_aR_wR_e, k_aR_wR, k_aR_wI, k_aR_wL, k_aR_sI, k_aR_sL, k_aR_sR, k_aR_nw, k_mI_sI_e, k_mI_sI, k_mI_wI, k_mI_wL, k_mI_wR, k_mI_sL, k_mI_sR, k_mI_nw, k_mL_sL_e, k_mL_sL, k_mL_wI, k_mL_wL, k_mL_wR, k_mL_sI, k_mL_sR, k_mL_nw, k_mR_sR_e, k_mR_sR, k_mR_wI, k_mR_wL, k_mR_wR, k_mR_sI, k_mR_sL, k_mR_nw, k_mT_wI, k_mT_wL, k_mT_wR, k_mT_sI, k_mT_sL, k_mT_sR, k_mT_nw, k_mN_wI, k_mN_wL, k_mN_wR, k_mN_sI, k_mN_sL, k_mN_sR, k_mN_nw, k_mC_wI, k_mC_wL, k_mC_wR, k_mC_sI, k_mC_sL, k_mC_sR, k_mC_nw, k_mS_wI, k_mS_wL, k_mS_wR, k_mS_sI, k_mS_sL, k_mS_sR, k_mS_nw, k_zF_1, k_zF_3, k_zF_11, k_zF_32, k_zF_36, k_zA_1, k_zA_3, k_zA_11, k_zA_32, k_zA_36, k_mT_fil, k_mN_fil, k_mI_fil, k_mL_fil, k_mR_fil, k_aL_fil, k_aR_fil, k_mC_fil, k_mS_fil, k_aI_fil_e, k_aI_fil, up1_ap, vb_e, h, inb_nj, ix_nj, gd_tt, nj_add_l, nj_sub_l, nj_lt_l, hf, go_s ht]
theorem P_add_full {m : Mem} {a : Nat} (h : mI m 514 13 = nj 160) : P_Ledger_add (some a) m = some (-1, m) := by
  unfold P_Ledger_add
  simp (disch := omega) [h, nj_lt_l]
theorem iniF_f {m : Mem} {a0 n : Nat} {x1 x2 x3 x4 x5 : Int32} {x7 : Option Nat} {f : Nat} (hf : 5 ≤ f) : mI (iniF m a0 x1 x2 x3 x4 x5 n x7) f = mI m f := by
  unfold iniF
  simp only [k_mI_fil, k_mI_sR, k_mI_nw, k_zF_32]
  rw [k_mI_sI (by omega), k_mI_sI (by omega), k_mI_sI (by omega), k_mI_sI (by omega), k_mI_sI (by omega)]
theorem iniF_T {m : Mem} {a0 n : Nat} {x1 x2 x3 x4 x5 : Int32} {x7 : Option Nat} : mT (iniF m a0 x1 x2 x3 x4 x5 n x7) = up1 (mT m) (mC m) 32 := by
  unfold iniF
  simp only [k_mT_fil, k_aI_wI_e, k_aI_wI, k_aI_wL, k_aI_wR, k_aI_sI, k_aI_sL, k_aI_sR, k_aI_nw, k_aL_wL_e, k_aL_wL, k_aL_wI, k_aL_wR, k_aL_sI, k_aL_sL, k_aL_sR, k_aL_nw, k_aR_wR_e, k_aR_wR, k_aR_wI, k_aR_wL, k_aR_sI, k_aR_sL, k_aR_sR, k_aR_nw, k_mI_sI_e, k_mI_sI, k_mI_wI, k_mI_wL, k_mI_wR, k_mI_sL, k_mI_sR, k_mI_nw, k_mL_sL_e, k_mL_sL, k_mL_wI, k_mL_wL, k_mL_wR, k_mL_sI, k_mL_sR, k_mL_nw, k_mR_sR_e, k_mR_sR, k_mR_wI, k_mR_wL, k_mR_wR, k_mR_sI, k_mR_sL, k_mR_nw, k_mT_wI, k_mT_wL, k_mT_wR, k_mT_sI, k_mT_sL, k_mT_sR, k_mT_nw, k_mN_wI, k_mN_wL, k_mN_wR, k_mN_sI, k_mN_sL, k_mN_sR, k_mN_nw, k_mC_wI, k_mC_wL, k_mC_wR, k_mC_sI, k_mC_sL, k_mC_sR, k_mC_nw, k_mS_wI, k_mS_wL, k_mS_wR, k_mS_sI, k_mS_sL, k_mS_sR, k_mS_nw, k_zF_1, k_zF_3, k_zF_11, k_zF_32, k_zF_36, k_zA_1, k_zA_3, k_zA_11, k_zA_32, k_zA_36, k_mT_fil, k_mN_fil, k_mI_fil, k_mL_fil, k_mR_fil, k_aL_fil, k_aR_fil, k_mC_fil, k_mS_fil, k_aI_fil_e, k_aI_fil]
theorem P_tell_e {p : Mem} {fc : Nat} {s a b c v : Int32} (T1 : 51 ≤ mC p) (h : mI p 514 13 = nj fc) (hf : fc < 160) : P_Ledger_tell s a b c v p = some (nj fc, tldP p fc s a b c v 0 none) := by
  unfold P_Ledger_tell
  rw [vb_e, P_Fact_init_e (n := 0) mT_mk (by rw [k_mC_nw]; omega) (by decide) (by omega), bn_s]
  rw [P_add_e (fc := fc) (by rw [iniF_f (by omega), k_mI_nw, zF_ne (by omega)]; exact h) hf (by rw [iniF_T, k_mC_nw, up1_ne (by omega)]; exact mT_mk), bn_s]
  rfl
theorem P_tell_full {p : Mem} {s a b c v : Int32} (T1 : 51 ≤ mC p) (h : mI p 514 13 = nj 160) : P_Ledger_tell s a b c v p = some (-1, iniF (nw p 1 0 7) (mC p) s a b c v 0 none) := by
  unfold P_Ledger_tell
  rw [vb_e, P_Fact_init_e (n := 0) mT_mk (by rw [k_mC_nw]; omega) (by decide) (by omega), bn_s]
  rw [P_add_full (by rw [iniF_f (by omega), k_mI_nw, zF_ne (by omega)]; exact h), bn_s]
theorem P_tellRow_e {p : Mem} {fc n : Nat} {a b : Int32} (T1 : 51 ≤ mC p) (h : mI p 514 13 = nj fc) (hf : fc < 160) (hn : n ≤ 48) : P_Ledger_tellRow a b (nj n) p = some (nj fc, tldP p fc 6 a b 0 0 n none) := by
  unfold P_Ledger_tellRow
  rw [vb_e, P_Fact_init_e (n := n) mT_mk (by rw [k_mC_nw]; omega) (jmax0 (by omega)) (by omega), bn_s]
  rw [P_add_e (fc := fc) (by rw [iniF_f (by omega), k_mI_nw, zF_ne (by omega)]; exact h) hf (by rw [iniF_T, k_mC_nw, up1_ne (by omega)]; exact mT_mk), bn_s]
  rfl
theorem P_tellRow_full {p : Mem} {n : Nat} {a b : Int32} (T1 : 51 ≤ mC p) (h : mI p 514 13 = nj 160) (hn : n ≤ 48) : P_Ledger_tellRow a b (nj n) p = some (-1, iniF (nw p 1 0 7) (mC p) 6 a b 0 0 n none) := by
  unfold P_Ledger_tellRow
  rw [vb_e, P_Fact_init_e (n := n) mT_mk (by rw [k_mC_nw]; omega) (jmax0 (by omega)) (by omega), bn_s]
  rw [P_add_full (by rw [iniF_f (by omega), k_mI_nw, zF_ne (by omega)]; exact h), bn_s]
