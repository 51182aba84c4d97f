/-! Layer C: variables of a HALF -/
def vR (D : Dt) (f d n : Nat) (yrs tk wkd wa wet : Int32) (h : Nat) : Nat → Int32 := fun j => if j = 5 then tk else if j = 6 then nj (d % 7) else if j = 7 then nj h else if j = 8 then wkd else if j = 9 then wa + wkd else if j = 10 then wet else vS D f d n yrs j
section As
variable {r p : Mem} {D : Dt}
theorem R_asks_e (hD : dat r = D) (hC : 82 ≤ mC r) (h160 : D.2.2 ≤ 160) {d f n who h : Nat} (hd : d < 140) (hf : f < 8) (hn : n ≤ D.2.2) (e1 : mI r 1612 0 = nj d) (e2 : mI r 1613 0 = nj f) (e3 : mI r 1614 0 = nj n) (hw : who < 10) (hh : h < 48) :
    ∃ r', R_asks (nj who) (nj h) r = some ((), r') ∧ (∀ j, j < 12 → aI r' 50 j = vR D f d n (aI r 41 who) (aI r 60 h) (aI r 61 h) (mI r 1638 0) (mI r 1639 0) h j) ∧ mI r' 1611 0 = aI r 40 who ∧ Ch [1611] [50] nil r r' ∧ mC r' = mC r := by
  obtain ⟨r1, a1, a2, a3, a4⟩ := R_stands_e hD hC h160 hd hf hn
  have f1 : ∀ g, mI r1 g 0 = mI r g 0 := fun g => a3.i List.not_mem_nil (by omega)
  have g1 : ∀ a, a ≠ 50 → a < 82 → aI r1 a = aI r a := fun a h1 h2 => a3.ai (by simp; exact h1) nil_no (by omega)
  have d7 : nj d / 7 = nj (d / 7) := nj_div (b := 7) (by omega) (by omega)
  have m7 : nj d - nj (d / 7) * 7 = nj (d % 7) := by rw [show (7 : Int32) = nj 7 from rfl, nj_mul, nj_sub (by omega)]; congr 1; omega
  have gw : ∀ {β : Type} (c : Option β), gd (inb (nj who) 10) c = c := fun c => by rw [inb_nj (by omega), gd_t (decide_eq_true hw)]
  have gh : ∀ {β : Type} (c : Option β), gd (inb (nj h) 48) c = c := fun c => by rw [inb_nj (by omega), gd_t (decide_eq_true hh)]
  refine ⟨sI (wI (wI (wI (wI (wI (wI (wI r1 50 1 (aI r 41 who)) 50 5 (aI r 60 h)) 50 6 (nj (d % 7))) 50 7 (nj h)) 50 8 (aI r 61 h)) 50 9 (mI r 1638 0 + aI r 61 h)) 50 10 (mI r 1639 0)) 1611 0 (aI r 40 who), ?_, fun j hj => ?_, by rw [k_mI_sI_e, up1_eq], ?_, by simp only [k_mC_sI, k_mC_wI]; exact a4⟩
  · unfold R_asks
    rw [e1, e2, e3, a1, bn_s]
    simp only [gw, gh, inb_lit (show (1 : Nat) < 2147483648 by omega), inb_lit (show (5 : Nat) < 2147483648 by omega), inb_lit (show (6 : Nat) < 2147483648 by omega), inb_lit (show (7 : Nat) < 2147483648 by omega), inb_lit (show (8 : Nat) < 2147483648 by omega), inb_lit (show (9 : Nat) < 2147483648 by omega), inb_lit (show (10 : Nat) < 2147483648 by omega), ix_lit (show (1 : Nat) < 2147483648 by omega), ix_lit (show (5 : Nat) < 2147483648 by omega), ix_lit (show (6 : Nat) < 2147483648 by omega), ix_lit (show (7 : Nat) < 2147483648 by omega), ix_lit (show (8 : Nat) < 2147483648 by omega), ix_lit (show (9 : Nat) < 2147483648 by omega), ix_lit (show (10 : Nat) < 2147483648 by omega), vb_e, k_mI_wI, k_aI_wI (show 60 ≠ 50 by omega), k_aI_wI (show 61 ≠ 50 by omega), k_aI_wI (show 40 ≠ 50 by omega), f1, g1 41 (by omega) (by omega), g1 60 (by omega) (by omega), g1 61 (by omega) (by omega), g1 40 (by omega) (by omega), e1, d7, m7, ix_nj (show who < 2147483648 by omega), ix_nj (show h < 2147483648 by omega)]
    rw [gd_t (by decide), gd_t (by decide), gd_t (by decide), gd_t (by decide), gd_t (by decide), gd_t (by decide), gd_t (by decide)]
  · rw [k_aI_sI]
    simp only [k_aI_wI_e, up1_ap, a2 j hj]
    unfold vR vS
    grind
  · exact (((((((a3.mono (by simp) (fun _ h => h) (fun _ h => h)).wI (Or.inl (by decide))).wI (Or.inl (by decide))).wI (Or.inl (by decide))).wI (Or.inl (by decide))).wI (Or.inl (by decide))).wI (Or.inl (by decide))).wI (Or.inl (by decide)) |>.sI (by decide)
end As
