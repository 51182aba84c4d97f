/-! Layer C: a LIT of a COND, both sides -/
section Xj
variable {N : Nat} {kd pl : Nat → Nat} {x1 : Option Nat} {x2 : Int32} {c cm : Bool} {S0 : List Int32} {B : List Nat} {c0 : Nat} {p r : Mem} {t i g st : Nat}
theorem expr_j (hB : Bok B) (h51 : 51 ≤ mC p) (h82 : 82 ≤ mC r) (hc0 : c0 ≤ 12000) (h1 : Toks p r N kd pl) (h2 : t < N) (h3 : mI p 779 22 = nj t) (h4 : mI r 1547 0 = nj t) (h5 : mI r 1549 0 = 0) (h6 : mI r 1548 0 = 0) (hF : Fs p c st 0 cm S0 B) (hst : st = 1 ∨ (st = 0 ∧ kd t ≠ 58 ∧ kd t ≠ 59)) (hc : mI r 1581 0 = nj c0) (hi : S0.length + B.length ≤ i) (hit : i < t) (hg : g + i = FU) :
    XOut N kd pl x1 x2 c cm S0 B c0 p r t i (P_Parser_takeFormula_10 g x1 x2 (nj i) p) (R_expression r) := by
  unfold R_expression
  have y1 : Rx c0 r (sI r 1590 0 0) := Rx.rfl.sI (by decide)
  obtain ⟨n, hn⟩ : ∃ n, FU = n + 1 := ⟨FU - 1, by unfold FU; omega⟩
  have hn' : n = 99999 := by unfold FU at hn; omega
  have e12 : R_expression_12 FU 0 1 (sI r 1590 0 0) = R_expression_23 (fun z0 z1 z2 => R_expression_12 n z0 z1 z2) FU 0 (sI r 1590 0 0) := by
    have : R_expression_12 (n + 1) 0 1 (sI r 1590 0 0) = R_expression_23 (fun z0 z1 z2 => R_expression_12 n z0 z1 z2) FU 0 (sI r 1590 0 0) := by
      rw [R_expression_12.eq_2, if_neg (show ¬ (1 : Int32) = 0 by decide), k_mI_sI (by omega), if_pos h5]
    rw [← hn] at this
    exact this
  rw [vb_e, vb_e, k_mI_sI (by omega), h6, e12]
  exact (ex_e (N := N) (kd := kd) (pl := pl) (x1 := x1) (x2 := x2) (c := c) (cm := cm) (S0 := S0) (B := B) (c0 := c0) (p0 := p) (r0 := r) (t0 := t) (i0 := i) hB h51 h82 hc0 501 (Nat.le_refl _)).1 p (sI r 1590 0 0) t i st g FU n [] [] (by omega)
    ⟨h1.rx y1 h82, h2, h3, by rw [k_mI_sI (by omega)]; exact h4, by rw [k_mI_sI (by omega)]; exact h5, by rw [show S0 ++ List.map enN [] = S0 from List.append_nil S0]; exact hF, ⟨by rw [k_mI_sI (by omega)]; exact h6, by rw [k_mI_sI_e, up1_ap, if_pos rfl]; rfl, trivial, by rw [k_mI_sI (by omega)]; exact hc, fun j kv hj => by cases hj⟩, (fun v hv => by cases hv), trivial, by decide, by rw [if_neg (by omega)]; rfl, by simp only [List.length_nil]; omega, by omega, hit, Or.inr (by omega), Nat.le_refl _, Cf.rfl, y1⟩ hst hg (by unfold FU; omega) (by omega)
end Xj
theorem emit_x {r : Mem} {c : Nat} {k v : Int32} (h : mI r 1581 0 = nj c) (hc : c < 12500) : R_emit k v r = some ((), sI (wI (wI r 33 c k) 34 c v) 1581 0 (nj (c + 1))) := by
  unfold R_emit
  rw [h, inb_nj (by omega), gd_t (decide_eq_true hc), vb_e, k_mI_wI, h, inb_nj (by omega), gd_t (decide_eq_true hc), vb_e, vb_e, k_mI_wI, k_mI_wI, h, nj_add_l, ix_nj (by omega)]
/-- the reference writes a LIT -/
def lwR (r : Mem) (l : Nat) (y1 y2 y3 y4 y5 y6 : Int32) : Mem := sI (wI (wI (wI (wI (wI (wI r 27 l y5) 28 l y2) 29 l y1) 30 l y3) 31 l y4) 32 l y6) 1580 0 (nj (l + 1))
theorem R136_e {r : Mem} {l : Nat} {y3 y4 y5 : Int32} (b1 b2 : Bool) (h0 : mI r 1549 0 = 0) (hl : mI r 1580 0 = nj l) (h5 : l < 5000) : R_literal_136 (tI b1) (tI b2) y3 y4 y5 r = some ((), lwR r l (tI b1) (tI b2) y3 y4 y5 (mI r 1581 0)) := by
  unfold R_literal_136 lwR
  have g : ∀ {β : Type} (z : Option β), gd (inb (nj l) 5000) z = z := fun z => by rw [inb_nj (by omega), gd_t (decide_eq_true h5)]
  simp only [h0, vb_e, k_mI_wI, hl, g, gz_tI, ix_nj (show l < 2147483648 by omega), nj_add_l]
  rw [if_pos (by decide)]
theorem lwR_at {r : Mem} {l : Nat} {y1 y2 y3 y4 y5 y6 : Int32} : aI (lwR r l y1 y2 y3 y4 y5 y6) 27 l = y5 ∧ aI (lwR r l y1 y2 y3 y4 y5 y6) 28 l = y2 ∧ aI (lwR r l y1 y2 y3 y4 y5 y6) 29 l = y1 ∧ aI (lwR r l y1 y2 y3 y4 y5 y6) 30 l = y3 ∧ aI (lwR r l y1 y2 y3 y4 y5 y6) 31 l = y4 ∧ aI (lwR r l y1 y2 y3 y4 y5 y6) 32 l = y6 ∧ aI (lwR r l y1 y2 y3 y4 y5 y6) 33 = aI r 33 ∧ aI (lwR r l y1 y2 y3 y4 y5 y6) 34 = aI r 34 ∧ (∀ f, f ≠ 1580 → mI (lwR r l y1 y2 y3 y4 y5 y6) f = mI r f) ∧ mI (lwR r l y1 y2 y3 y4 y5 y6) 1580 0 = nj (l + 1) := by
  unfold lwR
  refine ⟨?_, ?_, ?_, ?_, ?_, ?_, ?_, ?_, fun f hf => ?_, ?_⟩
  · rw [k_aI_sI, k_aI_wI (by omega), k_aI_wI (by omega), k_aI_wI (by omega), k_aI_wI (by omega), k_aI_wI (by omega), k_aI_wI_e, up1_ap, if_pos rfl]
  · rw [k_aI_sI, k_aI_wI (by omega), k_aI_wI (by omega), k_aI_wI (by omega), k_aI_wI (by omega), k_aI_wI_e, up1_ap, if_pos rfl]
  · rw [k_aI_sI, k_aI_wI (by omega), k_aI_wI (by omega), k_aI_wI (by omega), k_aI_wI_e, up1_ap, if_pos rfl]
  · rw [k_aI_sI, k_aI_wI (by omega), k_aI_wI (by omega), k_aI_wI_e, up1_ap, if_pos rfl]
  · rw [k_aI_sI, k_aI_wI (by omega), k_aI_wI_e, up1_ap, if_pos rfl]
  · rw [k_aI_sI, k_aI_wI_e, up1_ap, if_pos rfl]
  · rw [k_aI_sI, k_aI_wI (by omega), k_aI_wI (by omega), k_aI_wI (by omega), k_aI_wI (by omega), k_aI_wI (by omega), k_aI_wI (by omega)]
  · rw [k_aI_sI, k_aI_wI (by omega), k_aI_wI (by omega), k_aI_wI (by omega), k_aI_wI (by omega), k_aI_wI (by omega), k_aI_wI (by omega)]
  · rw [k_mI_sI hf, k_mI_wI, k_mI_wI, k_mI_wI, k_mI_wI, k_mI_wI, k_mI_wI]
  · rw [k_mI_sI_e, up1_ap, if_pos rfl]
theorem lwR_rk {r0 r : Mem} {l c : Nat} {y1 y2 y3 y4 y5 y6 : Int32} (h : Rk l c r0 r) : Rk l c r0 (lwR r l y1 y2 y3 y4 y5 y6) :=
  ((((((h.wI (by decide) (Nat.le_refl _)).wI (by decide) (Nat.le_refl _)).wI (by decide) (Nat.le_refl _)).wI (by decide) (Nat.le_refl _)).wI (by decide) (Nat.le_refl _)).wI (by decide) (Nat.le_refl _)).sI (by decide)
theorem cmpk_e : ∀ k, k < 60 → (10 ≤ k ∧ k ≤ 13 → nj (kM k) - 11 = nj (k - 10)) ∧ (¬ (10 ≤ k ∧ k ≤ 13) → nj (kM k) - 11 < 0 ∨ ¬ nj (kM k) - 11 ≤ 3) := by decide +kernel
/-- a LIT's codes lie below c -/
def LB (r : Mem) (l c : Nat) : Prop := c < 20000 ∧ ((aI r 27 l = 4 ∧ ∃ a, a < c ∧ aI r 30 l = nj a) ∨ (aI r 27 l ≠ 4 ∧ ∃ a b e, aI r 30 l = nj a ∧ aI r 31 l = nj b ∧ aI r 32 l = nj e ∧ a ≤ b ∧ b ≤ e ∧ e ≤ c))
section Lj
variable (N : Nat) (kd pl : Nat → Nat) (x l c : Nat) (orr : Bool) (S : List Int32) (B : List Nat) (p0 r0 : Mem) (t0 i0 : Nat)
/-- behind a LIT: the class has yet to settle W -/
def LGood (p' r' : Mem) (t' i' st : Nat) (cm : Bool) (S' : List Int32) (W' : List Nat) (n : Nat) : Prop :=
  Toks p' r' N kd pl ∧ t0 + 2 ≤ t' ∧ t' < N ∧ mI p' 779 22 = nj t' ∧ mI r' 1547 0 = nj t' ∧ mI r' 1549 0 = 0 ∧ mI r' 1548 0 = 0 ∧ Fs p' true st 0 cm S' W' ∧ (st = 4 ∨ (st = 3 ∧ cm = true ∧ ¬ (6 ≤ kd t' ∧ kd t' ≤ 9))) ∧ (∀ w, w ∈ W' → w < 1000) ∧ S'.length + W'.length ≤ i' ∧ i' + t0 = t' + i0 ∧ i' < t' ∧
  (∀ lim, 1 ≤ lim → lim ≤ 2 → S' ++ stE (stO lim W').1 = S ++ litS (rwD r' x) (fun _ => n) l ++ stE (stO lim B).1 ∧ (stO lim W').2 = (stO lim B).2) ∧ mI r' 1580 0 = nj (l + 1) ∧ (∃ c', mI r' 1581 0 = nj c' ∧ c ≤ c' ∧ c' ≤ c + (litS (rwD r' x) (fun _ => n) l).length ∧ LB r' l c') ∧
  aI r' 28 l = tI (odd n) ∧ aI r' 29 l = tI orr ∧ (mI r' 1551 0 = 0 → mI r0 1551 0 = 0 ∧ WLit (rwD r' x) l) ∧ Lat p' r' (pl t') ∧ Cc p0 p' ∧ Rk l c r0 r'
def LOut (x1 : Option Nat) (y : Option (Int32 × Mem)) (z : Option (Unit × Mem)) : Prop :=
  (∃ p' r' t' i' g' st cm S' W' n, y = P_Parser_takeFormula_10 g' x1 1 (nj i') p' ∧ z = some ((), r') ∧ g' + i' = FU ∧ LGood N kd pl x l c orr S B p0 r0 t0 i0 p' r' t' i' st cm S' W' n) ∨
  (∃ p' r', y = some (0, p') ∧ z = some ((), r') ∧ Fld p' r' ∧ Cd p0 p' ∧ Rk l c r0 r')
end Lj
