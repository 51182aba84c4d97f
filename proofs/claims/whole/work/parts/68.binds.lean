/-! Layer C: the class writes down what binds a HALF -/
section Bz
variable {fa ta ia sa ca : Nat → Nat} {od : List Nat} {p : Mem} {D : Dt} {nc : Nat} {vs : Nat → Int32} {tk : Int32} {inf : Nat → Bool}
/-- bound, award and agree of a HALF -/
def wrB (p : Mem) (h : Nat) (v : Int32) (a g : Option Nat) : Mem := wR (wR (wI p 32 h v) 33 h a) 35 h g
theorem wrB_Ch {h : Nat} {v : Int32} {a g : Option Nat} : Ch [] [32, 33, 35] nil p (wrB p h v a g) := ((Ch.rfl.wI (Or.inl (by decide))).wR (Or.inl (by decide))).wR (Or.inl (by decide))
theorem P_bind_96_e (L : Lk fa ta ia sa ca od p D) (T : Top p) (W : WText D nc) (Wi : WItems D nc) (hb : ∀ a, a < D.2.1 → mI p 1295 (ta a) = tI (wB D inf vs tk a)) {h : Nat} (hh : h < 48) :
    (cB (aB D inf vs tk) D.2.1 = 0 ∧ P_Reckoning_bind_96 (nj h) (nj (cB (aB D inf vs tk) D.2.1)) p = some ((), p)) ∨
    (cB (aB D inf vs tk) D.2.1 ≠ 0 ∧ cB (uB D (aB D inf vs tk)) D.2.1 ≠ 1 ∧ P_Reckoning_bind_96 (nj h) (nj (cB (aB D inf vs tk) D.2.1)) p = some ((), wrB p h (-2) none none)) ∨
    (cB (aB D inf vs tk) D.2.1 ≠ 0 ∧ cB (uB D (aB D inf vs tk)) D.2.1 = 1 ∧ ∃ b, b < D.2.1 ∧ lB (uB D (aB D inf vs tk)) D.2.1 = some b ∧ P_Reckoning_bind_96 (nj h) (nj (cB (aB D inf vs tk) D.2.1)) p = some ((), wrB p h (D.1 12 b) (some (ta b)) ((bst D (agP D inf vs tk b) D.2.1).map ta))) := by
  have h24 := W.1
  have q1 := cB_le (B := aB D inf vs tk) D.2.1
  have q2 := cB_le (B := uB D (aB D inf vs tk)) D.2.1
  have g : ∀ {β : Type} (c : Option β), gd (inb (nj h) 48) c = c := fun c => by rw [inb_nj (by omega), gd_t (decide_eq_true hh)]
  by_cases c : cB (aB D inf vs tk) D.2.1 = 0
  · refine Or.inl ⟨c, ?_⟩
    unfold P_Reckoning_bind_96
    rw [c, if_pos (by rfl)]
  · have e96 : P_Reckoning_bind_96 (nj h) (nj (cB (aB D inf vs tk) D.2.1)) p = P_Reckoning_bind_170 (nj h) ((lsF (uB D (aB D inf vs tk)) od).map ta) (nj (cB (uB D (aB D inf vs tk)) D.2.1)) p := by
      unfold P_Reckoning_bind_96
      rw [if_neg (show ¬ nj (cB (aB D inf vs tk) D.2.1) = 0 from fun z => c ((nj_inj (b := 0) (by omega) (by omega)).mp z))]
      exact P_bind_109_e L W Wi hb D.2.1 0 FU (by omega) (by unfold FU; omega)
    rw [e96]
    by_cases u : cB (uB D (aB D inf vs tk)) D.2.1 = 1
    · obtain ⟨b, b1, b2, b3, b4⟩ := one_eq L.2.2.1.2.2.1 L.2.2.1.2.2.2 u
      obtain ⟨-, t2, -, t4, -⟩ := L.2.1.2.1 b b1
      refine Or.inr (Or.inr ⟨c, u, b, b1, b4, ?_⟩)
      have c2 : Ch [] [32, 33, 35] nil p (wR (wI p 32 h (D.1 12 b)) 33 h (some (ta b))) := (Ch.rfl.wI (Or.inl (by decide))).wR (Or.inl (by decide))
      have L2 := L.Ch T (c2.mono (fun _ h => h) (fun _ h => h) (fun _ h => h.elim)) (by decide) (by decide)
      have hla := P_lastAgree_e (inf := inf) (vs := vs) (tk := tk) L2 W (fun a ha => by rw [k_mI_wR, k_mI_wI]; exact hb a ha) b1
      rw [b3, u]
      unfold P_Reckoning_bind_170
      show (if nj 1 = 1 then (if some (ta b) = none then _ else gs (some (ta b)) _) else _) = _
      rw [if_pos (by rfl), if_neg (by simp), gs_s, gt_t t2, t4]
      unfold P_Reckoning_bind_194 P_Reckoning_bind_211 P_Reckoning_bind_240
      simp only [g, vb_e, ix_nj (show h < 2147483648 by omega)]
      rw [if_pos (by rfl), go_s (by exact t2), k_aR_wR_e, up1_eq, if_neg (by simp), hla, bn_s]
      cases cb : bst D (agP D inf vs tk b) D.2.1 with
      | none => rfl
      | some x =>
        have hx := ((bst_p (D := D) (P := agP D inf vs tk b) D.2.1).2 x cb).1
        show go _ (some (ta x)) 11 _ = _
        rw [go_s (by exact (L.2.1.2.1 x hx).2.1)]
        rfl
    · refine Or.inr (Or.inl ⟨c, u, ?_⟩)
      have hu : ¬ nj (cB (uB D (aB D inf vs tk)) D.2.1) = 1 := fun z => u ((nj_inj (b := 1) (by omega) (by omega)).mp z)
      unfold P_Reckoning_bind_170 P_Reckoning_bind_192 P_Reckoning_bind_194 P_Reckoning_bind_211 P_Reckoning_bind_240
      simp only [g, vb_e, ix_nj (show h < 2147483648 by omega), if_neg hu, go_n]
      rw [if_pos (by rw [k_aR_wR_e, up1_eq])]
      rfl
end Bz
