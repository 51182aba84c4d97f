/-! Layer C: variables of a HALF, in the class -/
section Lo
variable {p : Mem} {D : Dt}
theorem P_lookAt_e {d f n h : Nat} {yrs wet : Int32} (hh : h < 48) (hv : ∀ j, j < 12 → j ≠ 5 → j ≠ 7 → j ≠ 8 → j ≠ 9 → j ≠ 11 → aI p 39 j = vR D f d n yrs (aI p 30 h) (aI p 31 h) (mI p 1032 28) wet h j) :
    ∃ p', P_Reckoning_lookAt (nj h) p = some ((), p') ∧ (∀ j, j < 12 → aI p' 39 j = vR D f d n yrs (aI p 30 h) (aI p 31 h) (mI p 1032 28) wet h j) ∧ Ch [] [39] nil p p' ∧ mC p' = mC p ∧ mS p' = mS p := by
  have gh : ∀ {β : Type} (c : Option β), gd (inb (nj h) 48) c = c := fun c => by rw [inb_nj (by omega), gd_t (decide_eq_true hh)]
  refine ⟨wI (wI (wI (wI (wI p 39 5 (aI p 30 h)) 39 7 (nj h)) 39 8 (aI p 31 h)) 39 9 (mI p 1032 28 + aI p 31 h)) 39 11 0, ?_, fun j hj => ?_, ((((Ch.rfl.wI (Or.inl (by decide))).wI (Or.inl (by decide))).wI (Or.inl (by decide))).wI (Or.inl (by decide))).wI (Or.inl (by decide)), by simp only [k_mC_wI], by simp only [k_mS_wI]⟩
  · unfold P_Reckoning_lookAt
    simp only [gh, inb_lit (show (5 : Nat) < 2147483648 by omega), inb_lit (show (7 : Nat) < 2147483648 by omega), inb_lit (show (8 : Nat) < 2147483648 by omega), inb_lit (show (9 : Nat) < 2147483648 by omega), inb_lit (show (11 : Nat) < 2147483648 by omega), ix_lit (show (5 : Nat) < 2147483648 by omega), ix_lit (show (7 : Nat) < 2147483648 by omega), ix_lit (show (8 : Nat) < 2147483648 by omega), ix_lit (show (9 : Nat) < 2147483648 by omega), ix_lit (show (11 : Nat) < 2147483648 by omega), vb_e, k_mI_wI, k_aI_wI (show 31 ≠ 39 by omega), ix_nj (show h < 2147483648 by omega)]
    rw [gd_t (by decide), gd_t (by decide), gd_t (by decide), gd_t (by decide), gd_t (by decide)]
  · simp only [k_aI_wI_e, up1_ap]
    by_cases j11 : j = 11
    · subst j11; rfl
    · by_cases j9 : j = 9
      · subst j9; rfl
      · by_cases j8 : j = 8
        · subst j8; rfl
        · by_cases j7 : j = 7
          · subst j7; rfl
          · by_cases j5 : j = 5
            · subst j5; rfl
            · rw [if_neg j11, if_neg j9, if_neg j8, if_neg j7, if_neg j5]
              exact hv j hj j5 j7 j8 j9 j11
end Lo
