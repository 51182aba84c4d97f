/-! Layer C: the TEXT that the class makes -/
section Mp
variable {p : Mem} {D : Dt} {k fc s0 v nc : Nat} {it fa ta ia sa ca : Nat → Nat} {od : List Nat}
theorem madeP_e (T : Top p) (L : Lk fa ta ia sa ca od p D) (W : WText D nc) (hfc : D.2.2 = fc) (h160 : fc ≤ 160) (hk : k ≤ 30) (h782 : mI p 782 22 = nj k) (hI : ∀ j, j < k → aR p 24 j = some (it j) ∧ mT p (it j) = 3) (inj : ∀ j j', j < k → j' < k → it j = it j' → j = j') (hs0 : s0 < 4) (h783 : mI p 783 22 = nj s0) (h514 : mI p 514 13 = nj fc) (h784 : mI p 784 22 = nj v) (h266 : ∀ j, j < k → mI p 266 (it j) = 1 ∧ mI p 267 (it j) = 0) {o : Option Nat} (ho : o = if s0 = 0 then none else (awd D (nj v)).map ta) :
    ∃ m, P_Parser_made p = some (some (mC p + 1), txP m (nj s0) (nj fc) (nj v) (mI p 785 22) (mI p 786 22) o (mC p) (if s0 = 0 ∨ s0 = 3 then 60 else 0)) ∧ Mk D fc k it (o.map (mI p 1281)) k p m := by
  have T1 := T.1
  have e0 : (nj s0 = 0) = (s0 = 0) := nj_eq_l (by omega) (by omega)
  have hTt : ∀ a, o = some a → mT p a = 11 := fun a ha => by
    rw [ho] at ha
    by_cases z : s0 = 0
    · rw [if_pos z] at ha; cases ha
    · rw [if_neg z] at ha
      cases e : awd D (nj v) with
      | none => rw [e] at ha; cases ha
      | some q =>
        rw [e] at ha
        have h1 := ((awd_iff W).mp e).1
        have : ta q = a := by
          have := Option.some.inj ha
          exact this
        rw [← this]
        exact (L.2.1.2.1 q h1).2.1
  have hM0 : Mk D fc k it (o.map (mI p 1281)) 0 p (nw p 36 k k) := ⟨Ch.rfl.nw, k_mC_nw, k_mS_nw, by rw [k_mT_nw]; exact up1_eq, by rw [k_mN_nw]; exact up1_eq, fun j hj => absurd hj (Nat.not_lt_zero j), fun b _ _ => by rw [k_mI_nw, k_zF_36]; exact ⟨rfl, rfl⟩, fun j _ hj => by rw [k_mI_nw, k_zF_36]; exact h266 j hj, fun j hj => absurd hj (Nat.not_lt_zero j)⟩
  obtain ⟨m, b1, b2⟩ := made33_e T L.1 hfc h160 hk h782 hI inj o hTt k 0 FU (nw p 36 k k) (by omega) (by unfold FU; omega) hM0
  have e22 : P_Parser_made_22 o p = some (some (mC p + 1), txP m (nj s0) (nj fc) (nj v) (mI p 785 22) (mI p 786 22) o (mC p) (if s0 = 0 ∨ s0 = 3 then 60 else 0)) := by
    have q : ∀ f a, a < 51 → f ≠ 266 → f ≠ 267 → mI (nw m 11 0 17) f a = mI p f a := fun f a ha f1 f2 => by
      rw [k_mI_nw, zF_ne (by rw [b2.2.1]; omega), b2.1.i (by simp only [List.mem_cons, List.not_mem_nil, or_false]; omega) (by omega)]
    unfold P_Parser_made_22
    rw [h782, inb_nj (by omega), gd_t (decide_eq_true (by omega)), vb_e, ix_nj (by omega), show (0 : Int32) = nj 0 from rfl, b1]
    unfold P_Parser_made_82
    rw [vb_e, q 783 22 (by omega) (by omega) (by omega), q 514 13 (by omega) (by omega) (by omega), q 784 22 (by omega) (by omega) (by omega), q 785 22 (by omega) (by omega) (by omega), q 786 22 (by omega) (by omega) (by omega), h783, h514, h784, P_Text_init_e hs0, bn_s, b2.2.1]
  refine ⟨m, ?_, b2⟩
  unfold P_Parser_made
  rw [h783]
  by_cases z : s0 = 0
  · rw [if_pos (e0.mpr z)]
    rw [if_pos z] at ho
    rw [← ho]
    exact e22
  · rw [if_neg (fun w => z (e0.mp w)), h784, P_awardNamed_e L W, bn_s]
    rw [if_neg z] at ho
    rw [← ho]
    exact e22
end Mp
