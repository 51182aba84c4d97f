/-! Layer C: the whole head, both sides -/
theorem hd_e : ∀ k, k < 60 → P_within (nj k - 41) 0 3 = some (tI (decide (41 ≤ k ∧ k ≤ 44))) ∧ (41 ≤ k ∧ k ≤ 44 → nj k - 41 = nj (k - 41) ∧ nj (kM k) - 20 = nj (k - 41)) ∧ (¬ (41 ≤ k ∧ k ≤ 44) → nj (kM k) - 20 < 0 ∨ ¬ nj (kM k) - 20 ≤ 3) := by decide +kernel
/-- what the head of TEXT x says -/
def Hc (D : Dt) (x s0 v : Nat) (p r : Mem) : Prop := mI p 783 22 = nj s0 ∧ aI r 8 x = nj s0 ∧ mI p 784 22 = (if v < 60 then nj v else -1) ∧ aI r 9 x = nj v ∧ mI p 785 22 = aI r 10 x ∧ (s0 < 2 → aI r 10 x = -1) ∧ (mI r 1551 0 = 0 → 2 ≤ s0 → ∃ g, g < 8 ∧ aI r 10 x = nj g) ∧ mI p 786 22 = aI r 11 x ∧ (mI r 1551 0 = 0 → ∃ d, d ≤ 139 ∧ aI r 11 x = nj d) ∧ aI r 13 x = lstA D (nj v) x ∧ (mI r 1551 0 = 0 → (s0 = 0 → awd D (nj v) = none) ∧ (s0 ≠ 0 → ∃ k, awd D (nj v) = some k))
theorem wrong_h {m : Mem} {k q : Nat} (h0 : mI m 1549 0 = 0) (hq : aI m 4 1 = nj q) (hq2 : q ≤ 2000) (hl : mI m 1551 0 ≠ 0 → ∃ q', q < q' ∧ q' ≤ 2000 ∧ mI m 1552 0 = nj q') : R_wrong (nj k) (nj 1) m = some ((), sI (sI m 1551 0 (nj k)) 1552 0 (nj q)) := by
  unfold R_wrong R_wrong_46
  rw [inb_nj (by omega), gd_t (decide_eq_true (by omega)), vb_e, ix_nj (by omega), hq, h0, if_neg (show ¬ (0 : Int32) < 0 by decide)]
  by_cases z : mI m 1551 0 = 0
  · rw [if_pos z, vb_e, vb_e]
  · obtain ⟨q', h1, h2, h3⟩ := hl z
    rw [if_neg z, h3, if_neg (by rw [nj_lt (by omega) (by omega)]; omega), if_neg (by rw [nj_inj (by omega) (by omega)]; omega), vb_e, vb_e]
section Hd
variable {N : Nat} {kd pl : Nat → Nat} {x kt : Nat} {p r : Mem} {t nm : Nat}
/-- the reference's last step: the award, a wrong title -/
theorem h184_e {s0 : Nat} {w : Int32} {told : Bool} (h : Ph N kd pl x (ktO s0 told) p r t nm) (h0 : s0 < 4) (ht : 2 ≤ t) (hw : w = -1 ↔ told = false) :
    ∃ r', R_tellHead_184 (nj s0) (nj 1) w r = some ((), r') ∧ Pi N kd pl x p r' t nm (200 * x) (500 * x) ∧ Hr x r r' ∧ aL r' = aL r ∧ aI r' 13 x = w ∧ (∀ y, y ≠ 13 → aI r' y = aI r y) ∧ (mI r' 1551 0 = 0 → ktO s0 told = 0 ∧ mI r 1551 0 = 0) := by
  have hh : Ph N kd pl x (ktO s0 told) p (wI r 13 x w) t nm := h.wI (by omega)
  have h82 := h.p82
  have hx := h.2.2.2.2.2.2
  have hx2 : x ≤ 23 := h.2.2.2.2.2.1
  have hk := ktO_b s0 told
  have e0 : (nj s0 = 0) = (s0 = 0) := nj_eq_l (by omega) (by omega)
  have l0 : (nj s0 ≤ 0) = (s0 ≤ 0) := nj_le_l (by omega) (by omega)
  have eF : R_tellHead_184 (nj s0) (nj 1) w r = if ktO s0 told = 0 then some ((), wI r 13 x w) else bn (R_wrong (nj (ktO s0 told)) (nj 1) (wI r 13 x w)) fun _ m => some ((), m) := by
    unfold R_tellHead_184 R_tellHead_209 ktO
    rw [hx, inb_nj (by omega), gd_t (decide_eq_true (by omega)), vb_e, ix_nj (by omega)]
    by_cases z : s0 = 0
    · rw [if_pos (e0.mpr z), if_pos z]
      cases told
      · rw [if_pos (hw.mpr rfl), if_pos (l0.mpr (by omega))]; rfl
      · rw [if_neg (fun q => by have := hw.mp q; cases this)]
        have l3 : (fun (_ : Unit) (m8 : Mem) => if nj s0 ≤ 0 then some ((), m8) else if w = -1 then bn (R_wrong 4 (nj 1) m8) fun _ m4 => some ((), m4) else some ((), m8)) = fun _ m8 => some ((), m8) := by
          funext _ m8
          rw [if_pos (l0.mpr (by omega))]
        rw [l3]
        rfl
    · rw [if_neg (fun q => z (e0.mp q)), if_neg z, if_neg (fun q => z (by have := l0.mp q; omega))]
      cases told
      · rw [if_pos (hw.mpr rfl)]; rfl
      · rw [if_neg (fun q => by have := hw.mp q; cases this)]; rfl
  rw [eF]
  have hHr : Hr x r (wI r 13 x w) := Hr.rfl.wI (by decide)
  have e13 : aI (wI r 13 x w) 13 x = w := by rw [k_aI_wI_e, up1_ap, if_pos rfl]
  have eo : ∀ y, y ≠ 13 → aI (wI r 13 x w) y = aI r y := fun y hy => k_aI_wI hy
  have eL : aL (wI r 13 x w) = aL r := k_aL_wI
  have e51 : mI (wI r 13 x w) 1551 0 = mI r 1551 0 := by rw [k_mI_wI]
  generalize wI r 13 x w = r1 at *
  obtain ⟨h1, h3, h4, h5, h6, h7, h8⟩ := hh
  have hN := h1.1.2.1
  by_cases z : ktO s0 told = 0
  · rw [if_pos z]
    exact ⟨r1, rfl, ⟨h1, h3.1 z, h4, h5, Nat.le_refl _, by omega, h6, Nat.le_refl _, by omega, h7⟩, hHr, eL, e13, eo, fun q => ⟨z, by rw [← e51]; exact q⟩⟩
  · have ht1 : 1 < N := by have := h1.2.1; omega
    obtain ⟨k1, k2, k3, k4, k5, k6, k7, k8⟩ := h1.1.2.2.2.2 1 ht1
    obtain ⟨w1, w2, w3, w4⟩ := h3.2 z
    have hp1 : pl 1 < pl t := by
      have u1 := (h1.1.2.2.2.1 1 (by have := h1.2.1; omega)).2
      have u2 := h1.1.mono t (i := 2) ht h1.2.1
      have u3 : pl (1 + 1) = pl 2 := rfl
      omega
    rw [if_neg z, wrong_h (k := ktO s0 told) h1.2.2.2.2.1 k6 k2 (fun q => by
      obtain ⟨q', q1, q2, q3, q4⟩ := w4 q
      exact ⟨q', q1, q3, q4⟩), bn_s]
    have f51 : mI (sI (sI r1 1551 0 (nj (ktO s0 told))) 1552 0 (nj (pl 1))) 1551 0 = nj (ktO s0 told) := by rw [k_mI_sI (by omega), k_mI_sI_e, up1_ap, if_pos rfl]
    have f52 : mI (sI (sI r1 1551 0 (nj (ktO s0 told))) 1552 0 (nj (pl 1))) 1552 0 = nj (pl 1) := by rw [k_mI_sI_e, up1_ap, if_pos rfl]
    have fo : ∀ f, f ≠ 1551 → f ≠ 1552 → mI (sI (sI r1 1551 0 (nj (ktO s0 told))) 1552 0 (nj (pl 1))) f = mI r1 f := fun f f1 f2 => by rw [k_mI_sI f2, k_mI_sI f1]
    have ne : ¬ nj (ktO s0 told) = 0 := by rw [nj_eq_l (by omega) (by omega)]; exact z
    refine ⟨_, rfl, ⟨⟨h1.1.keep rfl rfl rfl (by rw [k_aI_sI, k_aI_sI]) (by rw [k_aI_sI, k_aI_sI]) (by rw [k_aI_sI, k_aI_sI]) (by rw [k_aL_sI, k_aL_sI]), h1.2.1, h1.2.2.1, by rw [fo 1547 (by omega) (by omega)]; exact h1.2.2.2.1, by rw [fo 1549 (by omega) (by omega)]; exact h1.2.2.2.2.1, by rw [fo 1548 (by omega) (by omega)]; exact h1.2.2.2.2.2.1, h1.2.2.2.2.2.2.1, h1.2.2.2.2.2.2.2.1, h1.2.2.2.2.2.2.2.2.1, h1.2.2.2.2.2.2.2.2.2.1, h1.2.2.2.2.2.2.2.2.2.2.1, h1.2.2.2.2.2.2.2.2.2.2.2⟩, ⟨by rw [f51]; exact w2, fun _ => ⟨by rw [f52]; exact w3, pl 1, hp1, ⟨k2, by rw [f51, nj_l_lt (by omega) (by omega)]; exact Nat.pos_of_ne_zero z⟩, f52⟩⟩, h4.same (Nat.le_refl _) (by rw [fo 1585 (by omega) (by omega)]) rfl rfl (by rw [k_aL_sI, k_aL_sI]) (by rw [fo 1587 (by omega) (by omega)]) rfl, by rw [fo 1580 (by omega) (by omega)]; exact h5, Nat.le_refl _, by omega, by rw [fo 1581 (by omega) (by omega)]; exact h6, Nat.le_refl _, by omega, h7⟩, ⟨(hHr.1.sI (by decide)).sI (by decide), hHr.2.1, hHr.2.2.1, fun y j y1 y2 y3 => by rw [k_aI_sI, k_aI_sI]; exact hHr.2.2.2 y j y1 y2 y3⟩, by rw [k_aL_sI, k_aL_sI]; exact eL, by rw [k_aI_sI, k_aI_sI]; exact e13, fun y hy => by rw [k_aI_sI, k_aI_sI]; exact eo y hy, fun q => absurd (f51.symm.trans q) ne⟩
end Hd
