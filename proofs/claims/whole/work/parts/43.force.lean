/-! Layer C: all ITEMS of a TEXT; what is in force -/
section Fo
variable {r : Mem} {D : Dt} {vs : Nat → Int32} {k of : Nat}
theorem stS_W {S0 : RS} (h0 : WRow D S0.1) (hof : of < D.2.1) : ∀ j, j ≤ ix (D.1 14 of) → WRow D (stS D vs of S0 j).1
  | 0, _ => h0
  | j + 1, h => apI_W (stS_W h0 hof j (by omega)) ⟨of, j, hof, by omega, rfl⟩
theorem h30_of (h14 : ∀ k, k < D.2.1 → ∃ m, m ≤ 30 ∧ D.1 14 k = nj m) : ∀ k, k < D.2.1 → ix (D.1 14 k) ≤ 30 := fun k hk => by
  obtain ⟨m, hm, em⟩ := h14 k hk
  rw [em, ix_nj (by omega)]
  exact hm
theorem R_adds_6_e (h24 : D.2.1 ≤ 24) (h160 : D.2.2 ≤ 160) {nc n f : Nat} {S0 : RS} (hn60 : nc ≤ 60) (W : WItems D nc) (h14 : ∀ k, k < D.2.1 → ∃ m, m ≤ 30 ∧ D.1 14 k = nj m) (hk : k < D.2.1) (hof : of < D.2.1) (h13 : D.1 8 of = 1 ∨ D.1 8 of = 2 → D.1 13 of = nj k) (h12 : D.1 12 of = nj f) (hfn : f ≤ n) (hn : n ≤ D.2.2) (hs8 : D.1 8 of = 0 ∨ D.1 8 of = 1 ∨ D.1 8 of = 2 ∨ D.1 8 of = 3) (h0 : WRow D S0.1) :
    ∀ (d j fu : Nat) (r : Mem), j + d = ix (D.1 14 of) → d < fu → dat r = D → 82 ≤ mC r → (D.1 8 of = 1 ∨ D.1 8 of = 2 → ∀ j, j < 12 → aI r 50 j = vs j) → RowsR r k (stS D vs of S0 j) → (∀ x, x < j → aI r 58 (30 * of + x) = ftS D vs of S0 x) → (∀ x, j ≤ x → x < ix (D.1 14 of) → aI r 58 (30 * of + x) = 0) →
    ∃ r', R_adds_6 fu (nj k) (nj of) (nj n) (nj (30 * of + j)) r = some ((), r') ∧ RowsR r' k (stS D vs of S0 (ix (D.1 14 of))) ∧ (∀ x, x < ix (D.1 14 of) → aI r' 58 (30 * of + x) = ftS D vs of S0 x) ∧ RKeep k of r r'
  | 0, j, fu + 1, r, hj, _, hD, hC, hv, hR, hF, hZ => by
    have h30o := h30_of h14 of hof
    have hjn : j = ix (D.1 14 of) := by omega
    refine ⟨r, ?_, by rw [← hjn]; exact hR, fun x hx => hF x (by omega), RKeep.rfl⟩
    have e14 : aI r 14 of = nj (ix (D.1 14 of)) := by
      obtain ⟨m, hm, em⟩ := h14 of hof
      rw [dat_t hD (by omega) hof, em, ix_nj (by omega)]
    rw [R_adds_6.eq_2, inb_nj (by omega), gd_t (decide_eq_true (by omega)), ix_nj (by omega), e14, nj_l_mul, nj_add, if_pos (by rw [nj_le (by omega) (by omega)]; omega)]
  | d + 1, j, fu + 1, r, hj, hfu, hD, hC, hv, hR, hF, hZ => by
    obtain ⟨r1, e1, e2, e3, e4, e5⟩ := R_adds_step (vs := vs) (fu := fu) hD hC h24 h160 hn60 W (h30_of h14) hk hof (show j < ix (D.1 14 of) by omega) h13 h12 hfn hn hs8 hv hR (stS_W h0 hof j (by omega)) (hZ j (Nat.le_refl _) (by omega))
    obtain ⟨r', f1, f2, f3, f4⟩ := R_adds_6_e h24 h160 hn60 W h14 hk hof h13 h12 hfn hn hs8 h0 d (j + 1) fu r1 (by omega) (by omega) (dat_keep hD hC e5) (by rw [e5.2.1]; exact hC) (fun q x hx => by rw [e5.1.ai (by decide) nil_no (by omega)]; exact hv q x hx) e2 (fun x hx => by
      by_cases c : x = j
      · subst c; exact e3
      · rw [e4 _ (by omega)]; exact hF x (by omega)) (fun x h1 h2 => by rw [e4 _ (by omega)]; exact hZ x (by omega) h2)
    exact ⟨r', e1.trans f1, f2, f3, e5.trans f4⟩
theorem R_adds_e (hD : dat r = D) (hC : 82 ≤ mC r) (h24 : D.2.1 ≤ 24) (h160 : D.2.2 ≤ 160) {nc n f : Nat} {S0 : RS} (hn60 : nc ≤ 60) (W : WItems D nc) (h14 : ∀ k, k < D.2.1 → ∃ m, m ≤ 30 ∧ D.1 14 k = nj m) (hk : k < D.2.1) (hof : of < D.2.1) (h13 : D.1 8 of = 1 ∨ D.1 8 of = 2 → D.1 13 of = nj k) (h12 : D.1 12 of = nj f) (hfn : f ≤ n) (hn : n ≤ D.2.2) (hs8 : D.1 8 of = 0 ∨ D.1 8 of = 1 ∨ D.1 8 of = 2 ∨ D.1 8 of = 3) (h0 : WRow D S0.1) (hv : D.1 8 of = 1 ∨ D.1 8 of = 2 → ∀ j, j < 12 → aI r 50 j = vs j) (hR : RowsR r k S0) (hZ : ∀ x, x < ix (D.1 14 of) → aI r 58 (30 * of + x) = 0) :
    ∃ r', R_adds (nj k) (nj of) (nj n) r = some ((), r') ∧ RowsR r' k (stS D vs of S0 (ix (D.1 14 of))) ∧ (∀ x, x < ix (D.1 14 of) → aI r' 58 (30 * of + x) = ftS D vs of S0 x) ∧ RKeep k of r r' := by
  have h30o := h30_of h14 of hof
  unfold R_adds
  rw [vb_e, nj_l_mul]
  exact R_adds_6_e h24 h160 hn60 W h14 hk hof h13 h12 hfn hn hs8 h0 (ix (D.1 14 of)) 0 FU r (by omega) (by unfold FU; omega) hD hC hv hR (fun _ h => absurd h (by omega)) (fun x _ hx => hZ x hx)
end Fo
/-- a STAY of the TEXT told by tf holds on the DAY, among the first n FACTS -/
def stB (D : Dt) (tf d : Int32) : Nat → Bool
  | 0 => false
  | x + 1 => decide (D.1 44 x = 10 ∧ D.1 45 x = tf ∧ D.1 46 x ≤ d ∧ d < D.1 47 x) || stB D tf d x
def inF (D : Dt) (k : Nat) (d f : Int32) (n : Nat) : Bool := decide (D.1 12 k < nj n) && decide (D.1 11 k ≤ d) && (decide (D.1 10 k = -1) || decide (D.1 10 k = f)) && !stB D (D.1 12 k) d n
section Fp
variable {r p : Mem} {D : Dt} {nc : Nat}
theorem stB_t {tf d : Int32} : ∀ {n : Nat}, stB D tf d n = true ↔ ∃ x, x < n ∧ D.1 44 x = 10 ∧ D.1 45 x = tf ∧ D.1 46 x ≤ d ∧ d < D.1 47 x
  | 0 => by simp [stB]
  | n + 1 => by
    unfold stB
    rw [Bool.or_eq_true, stB_t, decide_eq_true_iff]
    constructor
    · rintro (h | ⟨x, hx, h⟩)
      · exact ⟨n, by omega, h⟩
      · exact ⟨x, by omega, h⟩
    · rintro ⟨x, hx, h⟩
      by_cases c : x = n
      · subst c; exact Or.inl h
      · exact Or.inr ⟨x, by omega, h⟩
theorem R_isIn_53_e (hD : dat r = D) (h160 : D.2.2 ≤ 160) {k n : Nat} {d : Int32} (hk : k < D.2.1) (h24 : D.2.1 ≤ 24) (hn : n ≤ D.2.2) : ∀ (e j fu : Nat), j + e = n → e < fu → R_isIn_53 fu (nj k) d (nj n) (nj j) r = some (tI (decide (∀ x, x < n → j ≤ x → ¬ (D.1 44 x = 10 ∧ D.1 45 x = D.1 12 k ∧ D.1 46 x ≤ d ∧ d < D.1 47 x))), r)
  | 0, j, fu + 1, hj, _ => by
    rw [R_isIn_53.eq_2, if_pos (by rw [nj_le (by omega) (by omega)]; omega), decide_eq_true (fun x h1 h2 => absurd h2 (by omega))]
    rfl
  | e + 1, j, fu + 1, hj, hf => by
    have ih := R_isIn_53_e hD h160 (d := d) hk h24 hn e (j + 1) fu (by omega) (by omega)
    have e44 : ∀ x, 44 ≤ x ∧ x ≤ 49 → aI r x j = D.1 x j := fun x hx => by rw [← hD, dat_44 hx]
    have g1 : ∀ {β : Type} (c : Option β), gd (inb (nj j) 160) c = c := fun c => by rw [inb_nj (by omega), gd_t (decide_eq_true (by omega))]
    have g2 : ∀ {β : Type} (c : Option β), gd (inb (nj k) 25) c = c := fun c => by rw [inb_nj (by omega), gd_t (decide_eq_true (by omega))]
    have e112 : R_isIn_112 (fun z0 z1 z2 z3 z4 => R_isIn_53 fu z0 z1 z2 z3 z4) (nj k) d (nj n) (nj j) r = R_isIn_53 fu (nj k) d (nj n) (nj (j + 1)) r := by
      unfold R_isIn_112
      rw [vb_e, nj_add_l]
    rw [R_isIn_53.eq_2, if_neg (by rw [nj_le (by omega) (by omega)]; omega)]
    simp only [g1, g2, e112, ix_nj (show j < 2147483648 by omega), ix_nj (show k < 2147483648 by omega), e44 44 (by omega), e44 45 (by omega), e44 46 (by omega), e44 47 (by omega), dat_t hD (x := 12) (by omega) hk]
    by_cases c : D.1 44 j = 10 ∧ D.1 45 j = D.1 12 k ∧ D.1 46 j ≤ d ∧ d < D.1 47 j
    · rw [if_pos c.1, if_pos c.2.1, if_neg (Int32.not_lt.mpr c.2.2.1), if_neg (Int32.not_le.mpr c.2.2.2), decide_eq_false (fun z => z j (by omega) (Nat.le_refl _) c)]
      rfl
    · have hE : decide (∀ x, x < n → j ≤ x → ¬ (D.1 44 x = 10 ∧ D.1 45 x = D.1 12 k ∧ D.1 46 x ≤ d ∧ d < D.1 47 x)) = decide (∀ x, x < n → j + 1 ≤ x → ¬ (D.1 44 x = 10 ∧ D.1 45 x = D.1 12 k ∧ D.1 46 x ≤ d ∧ d < D.1 47 x)) := by
        rw [decide_eq_decide]
        constructor
        · exact fun h x h1 h2 => h x h1 (by omega)
        · intro h x h1 h2
          by_cases q : x = j
          · subst q; exact c
          · exact h x h1 (by omega)
      rw [hE, ← ih]
      by_cases c1 : D.1 44 j = 10
      · rw [if_pos c1]
        by_cases c2 : D.1 45 j = D.1 12 k
        · rw [if_pos c2]
          by_cases c3 : d < D.1 46 j
          · rw [if_pos c3]
          · rw [if_neg c3]
            by_cases c4 : D.1 47 j ≤ d
            · rw [if_pos c4]
            · exact absurd ⟨c1, c2, Int32.not_lt.mp c3, Int32.not_le.mp c4⟩ c
        · rw [if_neg c2]
      · rw [if_neg c1]
theorem R_isIn_e (hD : dat r = D) (W : WText D nc) (F : WFact D nc) {k n : Nat} {d f : Int32} (hk : k < D.2.1) (hn : n ≤ D.2.2) : R_isIn (nj k) d f (nj n) r = some (tI (inF D k d f n), r) := by
  have h24 := W.1
  have h160 := W.2.1
  obtain ⟨-, ⟨tf, t1, t2, -⟩, -⟩ := W.2.2.1 k hk
  have g2 : ∀ {β : Type} (c : Option β), gd (inb (nj k) 25) c = c := fun c => by rw [inb_nj (by omega), gd_t (decide_eq_true (by omega))]
  unfold R_isIn R_isIn_43
  simp only [g2, ix_nj (show k < 2147483648 by omega), dat_t hD (x := 12) (by omega) hk, dat_t hD (x := 11) (by omega) hk, dat_t hD (x := 10) (by omega) hk, vb_e]
  unfold inF
  by_cases c1 : nj n ≤ D.1 12 k
  · rw [if_pos c1, decide_eq_false (Int32.not_lt.mpr c1)]; rfl
  · have c1' := Int32.not_le.mp c1
    rw [if_neg c1, decide_eq_true c1', Bool.true_and]
    by_cases c2 : d < D.1 11 k
    · rw [if_pos c2, decide_eq_false (Int32.not_le.mpr c2)]; rfl
    · rw [if_neg c2, decide_eq_true (Int32.not_lt.mp c2), Bool.true_and]
      have hlt : tf < n := by
        rw [t2, nj_lt (by omega) (by omega)] at c1'
        exact c1'
      have L : R_isIn_53 FU (nj k) d (nj n) (D.1 12 k + 1) r = some (tI (!stB D (D.1 12 k) d n), r) := by
        rw [t2, nj_add_l, R_isIn_53_e hD h160 hk h24 hn (n - (tf + 1)) (tf + 1) FU (by omega) (by unfold FU; omega)]
        congr 3
        rw [← t2]
        cases hs : stB D (D.1 12 k) d n with
        | true =>
          obtain ⟨x, hx, y1, y2, y3, y4⟩ := stB_t.mp hs
          refine decide_eq_false fun z => z x hx ?_ ⟨y1, y2, y3, y4⟩
          obtain ⟨s, s1, s2, -, -, -, -, -, -, s10⟩ := F x (by omega)
          rw [s2, nj_eq_l (by omega) (by omega)] at y1
          obtain ⟨a, b, c, a1, -, -, -, a5, -, -⟩ := s10 y1
          rw [a5, t2, nj_inj (by omega) (by omega)] at y2
          omega
        | false =>
          refine decide_eq_true fun x hx _ h => ?_
          have := stB_t.mpr ⟨x, hx, h⟩
          rw [hs] at this
          cases this
      rw [L]
      by_cases c3 : D.1 10 k = -1
      · rw [if_pos c3, decide_eq_true c3, Bool.true_or, Bool.true_and]
      · rw [if_neg c3, decide_eq_false c3, Bool.false_or]
        by_cases c4 : D.1 10 k = f
        · rw [if_pos c4, decide_eq_true c4, Bool.true_and]
        · rw [if_neg c4, decide_eq_false c4]; rfl
end Fp
