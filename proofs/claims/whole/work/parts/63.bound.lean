/-! Layer C: the award that binds a HALF, in the reference -/
def aB (D : Dt) (inf : Nat → Bool) (vs : Nat → Int32) (tk : Int32) (k : Nat) : Bool := decide (D.1 8 k = 0) && (inf k && bdS D vs tk k)
/-- another of B is over k, from l on -/
def unR (D : Dt) (B : Nat → Bool) (k : Nat) : Nat → Nat → Bool
  | 0, _ => false
  | e + 1, l => (decide (l ≠ k) && (B l && ovS D (D.1 9 k) l)) || unR D B k e (l + 1)
def unS (D : Dt) (B : Nat → Bool) (k : Nat) : Bool := unR D B k D.2.1 0
def cB (B : Nat → Bool) : Nat → Nat
  | 0 => 0
  | k + 1 => cB B k + if B k then 1 else 0
def lB (B : Nat → Bool) : Nat → Option Nat
  | 0 => none
  | k + 1 => if B k then some k else lB B k
/-- bound: -1 none, -2 more than one, else the award -/
def bnS (D : Dt) (B : Nat → Bool) : Int32 := if cB B D.2.1 = 0 then -1 else if cB (fun k => B k && !unS D B k) D.2.1 = 1 then jo (lB (fun k => B k && !unS D B k) D.2.1) else -2
section Bn
variable {r : Mem} {D : Dt} {nc : Nat} {vs : Nat → Int32} {tk : Int32} {inf B : Nat → Bool}
theorem cB_le : ∀ k, cB B k ≤ k
  | 0 => Nat.le_refl _
  | k + 1 => by
    have := cB_le k
    show cB B k + (if B k then 1 else 0) ≤ k + 1
    split <;> omega
theorem HoR_Ch2 {r' : Mem} (h : HoR r D vs tk) (c : Ch [1610] [51, 68] nil r r') (hC : mC r' = mC r) : HoR r' D vs tk := by
  obtain ⟨h1, h2, h3, h4⟩ := h
  exact ⟨(dat_Ch c h2 (by decide) (by decide)).trans h1, by omega, fun j hj => by rw [c.ai (by decide) nil_no (by omega)]; exact h3 j hj, by rw [c.i (by decide) (by omega)]; exact h4⟩
theorem R_isUnder_32_e (hD : dat r = D) (W : WText D nc) {k l N : Nat} (hk : k < D.2.1) (hl : l < D.2.1) (h14 : D.1 14 l = nj N) (hN : N ≤ 30) (k2 : Int32 → Int32 → Mem → Option (Int32 × Mem)) : ∀ (e j fu : Nat), j + e = N → e < fu → R_isUnder_32 k2 fu (nj k) (nj l) (nj (30 * l + j)) r = if ovR D (D.1 9 k) l e j = true then some (1, r) else k2 (nj k) (nj (l + 1)) r
  | 0, j, fu + 1, he, _ => by
    have h24 := W.1
    have e30 : 30 * nj l + nj N = nj (30 * l + N) := by rw [show (30 : Int32) = nj 30 from rfl, nj_mul, nj_add]
    rw [R_isUnder_32.eq_2, inb_nj (by omega), gd_t (decide_eq_true (by omega)), ix_nj (by omega), dat_t hD (by omega) hl, h14, e30, if_pos (by rw [nj_le (by omega) (by omega)]; omega)]
    unfold R_isUnder_80
    rw [vb_e, nj_add_l]
    rfl
  | e + 1, j, fu + 1, he, hf => by
    have h24 := W.1
    have ih := R_isUnder_32_e hD W hk hl h14 hN k2 e (j + 1) fu (by omega) (by omega)
    have e30 : 30 * nj l + nj N = nj (30 * l + N) := by rw [show (30 : Int32) = nj 30 from rfl, nj_mul, nj_add]
    have g1 : ∀ {β : Type} (c : Option β), gd (inb (nj (30 * l + j)) 750) c = c := fun c => by rw [inb_nj (by omega), gd_t (decide_eq_true (by omega))]
    have g2 : ∀ {β : Type} (c : Option β), gd (inb (nj k) 25) c = c := fun c => by rw [inb_nj (by omega), gd_t (decide_eq_true (by omega))]
    rw [R_isUnder_32.eq_2, inb_nj (show l < 2147483648 by omega), gd_t (decide_eq_true (by omega)), ix_nj (show l < 2147483648 by omega), dat_t hD (x := 14) (by omega) hl, h14, e30, if_neg (by rw [nj_le (by omega) (by omega)]; omega)]
    simp only [g1, g2, ix_nj (show 30 * l + j < 2147483648 by omega), ix_nj (show k < 2147483648 by omega)]
    rw [dat_15 hD (x := 15) (by omega) (by omega), dat_15 hD (x := 16) (by omega) (by omega), dat_t hD (x := 9) (by omega) hk]
    unfold R_isUnder_74
    rw [vb_e, nj_add_l]
    have hs : ovR D (D.1 9 k) l (e + 1) j = ((decide (D.1 15 (30 * l + j) = 1) && decide (D.1 16 (30 * l + j) = D.1 9 k)) || ovR D (D.1 9 k) l e (j + 1)) := rfl
    rw [hs]
    by_cases c0 : D.1 15 (30 * l + j) = 1
    · rw [if_pos c0, decide_eq_true c0, Bool.true_and]
      by_cases c1 : D.1 16 (30 * l + j) = D.1 9 k
      · rw [if_pos c1, decide_eq_true c1, Bool.true_or, if_pos rfl]
      · rw [if_neg c1, decide_eq_false c1, Bool.false_or]; exact ih
    · rw [if_neg c0, decide_eq_false c0, Bool.false_and, Bool.false_or]; exact ih
theorem R_isUnder_2_e (hD : dat r = D) (W : WText D nc) (h54 : mI r 1554 0 = nj D.2.1) (hB : ∀ l, l < D.2.1 → aI r 68 l = tI (B l)) {k : Nat} (hk : k < D.2.1) : ∀ (e l fu : Nat), l + e = D.2.1 → e < fu → R_isUnder_2 fu (nj k) (nj l) r = some (tI (unR D B k e l), r)
  | 0, l, fu + 1, he, _ => by
    have h24 := W.1
    rw [R_isUnder_2.eq_2, h54, if_pos (by rw [nj_le (by omega) (by omega)]; omega)]
    rfl
  | e + 1, l, fu + 1, he, hf => by
    have h24 := W.1
    have hl : l < D.2.1 := by omega
    have ih := R_isUnder_2_e hD W h54 hB hk e (l + 1) fu (by omega) (by omega)
    obtain ⟨-, -, -, -, -, -, -, N, hN, h14⟩ := W.2.2.1 l hl
    have h32 := R_isUnder_32_e hD W hk hl h14 hN (fun z0 z1 z2 => R_isUnder_2 fu z0 z1 z2) N 0 FU (by omega) (by unfold FU; omega)
    have e30 : 30 * nj l = nj (30 * l) := by rw [show (30 : Int32) = nj 30 from rfl, nj_mul]
    have hov : ovR D (D.1 9 k) l N 0 = ovS D (D.1 9 k) l := by unfold ovS; rw [h14, ix_nj (by omega)]
    rw [Nat.add_zero, hov] at h32
    rw [R_isUnder_2.eq_2, h54, if_neg (by rw [nj_le (by omega) (by omega)]; omega), inb_nj (by omega), gd_t (decide_eq_true (by omega)), ix_nj (by omega), hB l hl, vb_e, e30, h32]
    unfold R_isUnder_80
    rw [vb_e, nj_add_l]
    have hs : unR D B k (e + 1) l = ((decide (l ≠ k) && (B l && ovS D (D.1 9 k) l)) || unR D B k e (l + 1)) := rfl
    rw [hs]
    by_cases c0 : l = k
    · rw [if_pos (by rw [c0]), decide_eq_false (fun z => z c0), Bool.false_and, Bool.false_or]; exact ih
    · rw [if_neg (fun z => c0 ((nj_inj (by omega) (by omega)).mp z)), decide_eq_true c0, Bool.true_and]
      cases c1 : B l with
      | false => rw [if_pos (by rfl), Bool.false_and, Bool.false_or]; exact ih
      | true =>
        rw [if_neg (by decide), Bool.true_and]
        cases c2 : ovS D (D.1 9 k) l with
        | true => rw [if_pos rfl]; rfl
        | false => rw [if_neg (by decide), Bool.false_or]; exact ih
theorem R_isUnder_e (hD : dat r = D) (W : WText D nc) (h54 : mI r 1554 0 = nj D.2.1) (hB : ∀ l, l < D.2.1 → aI r 68 l = tI (B l)) {k : Nat} (hk : k < D.2.1) : R_isUnder (nj k) r = some (tI (unS D B k), r) := by
  have h24 := W.1
  exact R_isUnder_2_e hD W h54 hB hk D.2.1 0 FU (by omega) (by unfold FU; omega)
theorem R_boundBy_80_e (hD : dat r = D) (W : WText D nc) (h54 : mI r 1554 0 = nj D.2.1) (hB : ∀ l, l < D.2.1 → aI r 68 l = tI (B l)) : ∀ (e l fu : Nat), l + e = D.2.1 → e < fu → R_boundBy_80 fu (nj (cB (fun k => B k && !unS D B k) l)) (jo (lB (fun k => B k && !unS D B k) l)) (nj l) r = some (if cB (fun k => B k && !unS D B k) D.2.1 = 1 then jo (lB (fun k => B k && !unS D B k) D.2.1) else -2, r)
  | 0, l, fu + 1, he, _ => by
    have h24 := W.1
    have := cB_le (B := fun k => B k && !unS D B k) D.2.1
    rw [R_boundBy_80.eq_2, h54, if_pos (by rw [nj_le (by omega) (by omega)]; omega), show l = D.2.1 by omega]
    unfold R_boundBy_123
    by_cases c : cB (fun k => B k && !unS D B k) D.2.1 = 1
    · rw [if_pos (by rw [c]; rfl), if_pos c]
    · rw [if_neg (show ¬ nj (cB (fun k => B k && !unS D B k) D.2.1) = 1 from fun z => c ((nj_inj (b := 1) (by omega) (by omega)).mp z)), if_neg c]
  | e + 1, l, fu + 1, he, hf => by
    have h24 := W.1
    have hl : l < D.2.1 := by omega
    have ih := R_boundBy_80_e hD W h54 hB e (l + 1) fu (by omega) (by omega)
    rw [R_boundBy_80.eq_2, h54, if_neg (by rw [nj_le (by omega) (by omega)]; omega), inb_nj (by omega), gd_t (decide_eq_true (by omega)), ix_nj (by omega), hB l hl, R_isUnder_e hD W h54 hB hl, bn_s]
    unfold R_boundBy_117
    simp only [vb_e, nj_add_l]
    have hc : cB (fun k => B k && !unS D B k) (l + 1) = cB (fun k => B k && !unS D B k) l + if (B l && !unS D B l) = true then 1 else 0 := rfl
    have hl' : lB (fun k => B k && !unS D B k) (l + 1) = if (B l && !unS D B l) = true then some l else lB (fun k => B k && !unS D B k) l := rfl
    rw [hc, hl'] at ih
    cases c1 : B l with
    | false => rw [c1] at ih; exact ih
    | true =>
      rw [c1] at ih
      cases c2 : unS D B l with
      | false => rw [c2] at ih; exact ih
      | true => rw [c2] at ih; exact ih
theorem R_boundBy_4_e (W : WText D nc) (Wi : WItems D nc) : ∀ (e l fu : Nat) (r : Mem), l + e = D.2.1 → e < fu → HoR r D vs tk → mI r 1554 0 = nj D.2.1 → (∀ k, k < D.2.1 → aI r 52 k = tI (inf k)) → (∀ k, k < l → aI r 68 k = tI (aB D inf vs tk k)) → ∃ r', R_boundBy_4 fu (nj (cB (aB D inf vs tk) l)) (nj l) r = R_boundBy_67 (nj (cB (aB D inf vs tk) D.2.1)) r' ∧ (∀ k, k < D.2.1 → aI r' 68 k = tI (aB D inf vs tk k)) ∧ Ch [1610] [51, 68] nil r r' ∧ mC r' = mC r
  | 0, l, fu + 1, r, he, _, H, h54, h52, hB => by
    have h24 := W.1
    refine ⟨r, ?_, by rw [show D.2.1 = l by omega]; exact hB, Ch.rfl, rfl⟩
    rw [R_boundBy_4.eq_2, h54, if_pos (by rw [nj_le (by omega) (by omega)]; omega), show l = D.2.1 by omega]
  | e + 1, l, fu + 1, r, he, hf, H, h54, h52, hB => by
    have h24 := W.1
    have hl : l < D.2.1 := by omega
    have hc : cB (aB D inf vs tk) (l + 1) = cB (aB D inf vs tk) l + if aB D inf vs tk l = true then 1 else 0 := rfl
    have step : ∀ (r1 : Mem) (b : Bool), Ch [1610] [51] nil r r1 → mC r1 = mC r → aB D inf vs tk l = b → ∃ r', R_boundBy_48 (fun z0 z1 z2 => R_boundBy_4 fu z0 z1 z2) (nj (cB (aB D inf vs tk) l)) (nj l) (tI b) (nj l) r1 = R_boundBy_67 (nj (cB (aB D inf vs tk) D.2.1)) r' ∧ (∀ k, k < D.2.1 → aI r' 68 k = tI (aB D inf vs tk k)) ∧ Ch [1610] [51, 68] nil r r' ∧ mC r' = mC r := fun r1 b c1 hC1 hb => by
      have C2 := H.2.1
      have c2 : Ch [1610] [51, 68] nil r (wI r1 68 l (tI b)) := (c1.mono (fun _ h => h) (by decide) (fun _ h => h)).wI (Or.inl (by decide))
      have hC2 : mC (wI r1 68 l (tI b)) = mC r := by rw [k_mC_wI]; exact hC1
      obtain ⟨r', a1, a2, a3, a4⟩ := R_boundBy_4_e W Wi e (l + 1) fu (wI r1 68 l (tI b)) (by omega) (by omega) (HoR_Ch2 H c2 hC2) (by rw [c2.i (by decide) (by omega)]; exact h54) (fun k hk => by rw [c2.ai (by decide) nil_no (by omega)]; exact h52 k hk) (fun k hk => by
        rw [k_aI_wI_e, up1_ap]
        by_cases q : k = l
        · rw [if_pos q, q, hb]
        · rw [if_neg q, c1.ai (by decide) nil_no (by omega)]; exact hB k (by omega))
      refine ⟨r', ?_, a2, c2.trans a3, by omega⟩
      rw [hc, hb] at a1
      unfold R_boundBy_48 R_boundBy_61
      rw [inb_nj (by omega), gd_t (decide_eq_true (by omega)), gz_tI, vb_e, ix_nj (by omega), gd_t (decide_eq_true (by omega)), k_aI_wI_e, up1_eq]
      simp only [vb_e, nj_add_l]
      cases b with
      | false => exact a1
      | true => exact a1
    rw [R_boundBy_4.eq_2, h54, if_neg (by rw [nj_le (by omega) (by omega)]; omega), inb_nj (by omega), gd_t (decide_eq_true (by omega)), ix_nj (by omega), dat_t H.1 (x := 8) (by omega) hl, inb_nj (by omega), gd_t (decide_eq_true (by omega)), h52 l hl]
    unfold R_boundBy_47
    by_cases c0 : D.1 8 l = 0
    · rw [if_pos c0]
      cases ci : inf l with
      | false =>
        rw [if_pos (by rfl)]
        exact step r false Ch.rfl rfl (by unfold aB; rw [ci, Bool.false_and, Bool.and_false])
      | true =>
        rw [if_neg (by decide)]
        obtain ⟨r1, b1, b2, b3⟩ := R_isBinding_e W Wi hl H
        rw [b1, bn_s]
        have hab : aB D inf vs tk l = bdS D vs tk l := by unfold aB; rw [ci, decide_eq_true c0, Bool.true_and, Bool.true_and]
        cases cb : bdS D vs tk l with
        | false =>
          rw [if_pos (by rfl)]
          exact step r1 false b2 b3 (by rw [hab, cb])
        | true =>
          rw [if_neg (by decide)]
          exact step r1 true b2 b3 (by rw [hab, cb])
    · rw [if_neg c0]
      exact step r false Ch.rfl rfl (by unfold aB; rw [decide_eq_false c0, Bool.false_and])
theorem R_boundBy_e (W : WText D nc) (Wi : WItems D nc) (H : HoR r D vs tk) (h54 : mI r 1554 0 = nj D.2.1) (h52 : ∀ k, k < D.2.1 → aI r 52 k = tI (inf k)) : ∃ r', R_boundBy r = some (bnS D (aB D inf vs tk), r') ∧ Ch [1610] [51, 68] nil r r' ∧ mC r' = mC r := by
  have h24 := W.1
  have C2 := H.2.1
  obtain ⟨r', a1, a2, a3, a4⟩ := R_boundBy_4_e W Wi D.2.1 0 FU r (by omega) (by unfold FU; omega) H h54 h52 (fun _ h => absurd h (by omega))
  refine ⟨r', ?_, a3, a4⟩
  unfold R_boundBy
  refine Eq.trans a1 ?_
  have := cB_le (B := aB D inf vs tk) D.2.1
  unfold R_boundBy_67 bnS
  by_cases c : cB (aB D inf vs tk) D.2.1 = 0
  · rw [if_pos (by rw [c]; rfl), if_pos c]
  · rw [if_neg (show ¬ nj (cB (aB D inf vs tk) D.2.1) = 0 from fun z => c ((nj_inj (b := 0) (by omega) (by omega)).mp z)), if_neg c]
    exact R_boundBy_80_e (HoR_Ch2 H a3 a4).1 W (by rw [a3.i (by decide) (by omega)]; exact h54) a2 D.2.1 0 FU (by omega) (by unfold FU; omega)
end Bn
