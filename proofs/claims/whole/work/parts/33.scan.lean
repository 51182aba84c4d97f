/-! Layer C: what is read off the FACTS: prices, least, wet, claims, payments -/
/-- a price FACT -/
abbrev isP (D : Dt) (t g q : Int32) (i : Nat) : Prop := D.1 44 i = 4 ∧ D.1 45 i = t ∧ D.1 46 i = q ∧ D.1 47 i = g
def lastP (D : Dt) (t g q : Int32) : Nat → Option Int32
  | 0 => none
  | n + 1 => if isP D t g q n then some (D.1 48 n) else lastP D t g q n
/-- the price at quarters below b, as the reference looks for it -/
def rP (D : Dt) (t g : Int32) (n : Nat) : Nat → Int32
  | 0 => 0
  | b + 1 => match lastP D t g (nj b) n with
    | some v => v
    | none => rP D t g n b
/-- as the class looks for it: latest, found -/
def pP (D : Dt) (t g q : Int32) : Nat → Int32 × Int32
  | 0 => (0, 0)
  | n + 1 => if D.1 44 n = 4 ∧ D.1 45 n = t ∧ D.1 47 n = g ∧ (pP D t g q n).1 ≤ D.1 46 n ∧ D.1 46 n ≤ q then (D.1 46 n, D.1 48 n) else pP D t g q n
section Sc
variable {nc : Nat} {p r : Mem} {D : Dt} {fa ta : Nat → Nat}
theorem pP_inv (W : WFact D nc) {t g : Int32} {q : Nat} (hq : q ≤ 3) : ∀ n, n ≤ D.2.2 → ((pP D t g (nj q) n = (0, 0) ∧ ∀ b, b ≤ q → lastP D t g (nj b) n = none) ∨ ∃ b, b ≤ q ∧ (pP D t g (nj q) n).1 = nj b ∧ lastP D t g (nj b) n = some (pP D t g (nj q) n).2 ∧ ∀ b', b < b' → b' ≤ q → lastP D t g (nj b') n = none)
  | 0, _ => Or.inl ⟨rfl, fun _ _ => rfl⟩
  | n + 1, hn => by
    have ih := pP_inv W (t := t) (g := g) hq n (by omega)
    by_cases c0 : D.1 44 n = 4 ∧ D.1 45 n = t ∧ D.1 47 n = g
    · obtain ⟨s, s1, s2, -, s4, -⟩ := W n (by omega)
      have hs : s = 4 := by
        rw [s2, nj_eq_l (by omega) (by omega)] at c0
        exact c0.1
      obtain ⟨-, b0, -, -, -, hb0, -, -, -, e46, -, -⟩ := s4 hs
      have hl : ∀ b, b ≤ 3 → lastP D t g (nj b) (n + 1) = if b0 = b then some (D.1 48 n) else lastP D t g (nj b) n := by
        intro b hb
        show (if isP D t g (nj b) n then some (D.1 48 n) else lastP D t g (nj b) n) = _
        by_cases z : b0 = b
        · rw [if_pos z, if_pos ⟨c0.1, c0.2.1, by rw [e46, z], c0.2.2⟩]
        · rw [if_neg z, if_neg]
          rintro ⟨-, -, z2, -⟩
          rw [e46, nj_inj (by omega) (by omega)] at z2
          exact z z2
      have hp : pP D t g (nj q) (n + 1) = if (pP D t g (nj q) n).1 ≤ nj b0 ∧ nj b0 ≤ nj q then (nj b0, D.1 48 n) else pP D t g (nj q) n := by
        show (if _ then _ else _) = _
        rw [e46]
        by_cases z : (pP D t g (nj q) n).1 ≤ nj b0 ∧ nj b0 ≤ nj q
        · rw [if_pos z, if_pos ⟨c0.1, c0.2.1, c0.2.2, z⟩]
        · rw [if_neg z, if_neg (fun w => z w.2.2.2)]
      rcases ih with ⟨i1, i2⟩ | ⟨b, i1, i2, i3, i4⟩
      · rw [hp, i1]
        by_cases z : b0 ≤ q
        · rw [if_pos ⟨nj_0le (by omega), by rw [nj_le (by omega) (by omega)]; exact z⟩]
          refine Or.inr ⟨b0, z, rfl, by rw [hl b0 (by omega), if_pos rfl], fun b' h1 h2 => ?_⟩
          rw [hl b' (by omega), if_neg (by omega)]
          exact i2 b' h2
        · rw [if_neg (fun w => z (by have := w.2; rw [nj_le (by omega) (by omega)] at this; exact this))]
          refine Or.inl ⟨rfl, fun b hb => ?_⟩
          rw [hl b (by omega), if_neg (by omega)]
          exact i2 b hb
      · rw [hp, i2]
        by_cases z : b ≤ b0 ∧ b0 ≤ q
        · rw [if_pos ⟨by rw [nj_le (by omega) (by omega)]; exact z.1, by rw [nj_le (by omega) (by omega)]; exact z.2⟩]
          refine Or.inr ⟨b0, z.2, rfl, by rw [hl b0 (by omega), if_pos rfl], fun b' h1 h2 => ?_⟩
          rw [hl b' (by omega), if_neg (by omega)]
          exact i4 b' (by omega) h2
        · rw [if_neg (fun w => z (by have h1 := w.1; have h2 := w.2; rw [nj_le (by omega) (by omega)] at h1 h2; exact ⟨h1, h2⟩))]
          refine Or.inr ⟨b, i1, i2, ?_, fun b' h1 h2 => ?_⟩
          · rw [hl b (by omega), if_neg (by omega)]; exact i3
          · rw [hl b' (by omega), if_neg (by omega)]; exact i4 b' h1 h2
    · have hl : ∀ b, lastP D t g b (n + 1) = lastP D t g b n := fun b => if_neg (fun z => c0 ⟨z.1, z.2.1, z.2.2.2⟩)
      have hp : pP D t g (nj q) (n + 1) = pP D t g (nj q) n := if_neg (fun z => c0 ⟨z.1, z.2.1, z.2.2.1⟩)
      simp only [hl, hp]
      exact ih
theorem rP_none {t g : Int32} {n : Nat} : ∀ b, (∀ b', b' < b → lastP D t g (nj b') n = none) → rP D t g n b = 0
  | 0, _ => rfl
  | b + 1, h => by
    unfold rP
    rw [h b (by omega)]
    exact rP_none b fun b' hb => h b' (by omega)
theorem rP_some {t g v : Int32} {n b : Nat} (hb : lastP D t g (nj b) n = some v) : ∀ c, b < c → (∀ b', b < b' → b' < c → lastP D t g (nj b') n = none) → rP D t g n c = v
  | 0, h, _ => absurd h (by omega)
  | c + 1, h, hn => by
    unfold rP
    by_cases q : c = b
    · subst q; rw [hb]
    · rw [hn c (by omega) (by omega)]
      exact rP_some hb c (by omega) fun b' h1 h2 => hn b' h1 (by omega)
/-- both ways come to the same price -/
theorem price_eq (W : WFact D nc) {t g : Int32} {q n : Nat} (hq : q ≤ 3) (hn : n ≤ D.2.2) : (pP D t g (nj q) n).2 = rP D t g n (q + 1) := by
  rcases pP_inv W (t := t) (g := g) hq n hn with ⟨i1, i2⟩ | ⟨b, i1, i2, i3, i4⟩
  · rw [i1, rP_none (q + 1) fun b' hb => i2 b' (by omega)]
  · rw [rP_some i3 (q + 1) (by omega) fun b' h1 h2 => i4 b' h1 (by omega)]
theorem nj_pred (j : Nat) : nj (j + 1) - 1 = nj j := by rw [nj_sub_l (by omega)]; rfl
theorem nj_pred' (j : Nat) : nj (j + 1) + (-1) = nj j := by rw [nj_m1 (by omega)]; rfl
theorem nj_am1 (j : Nat) : nj j + (-1) = nj j - 1 := by rw [Int32.sub_eq_add_neg]
theorem R_priceOf_14_e (hD : dat r = D) {x1 x3 x4 x5 : Int32} (k3 : Int32 → Int32 → Int32 → Int32 → Mem → Option (Int32 × Mem)) : ∀ (j fu : Nat), j < fu → j ≤ 160 → R_priceOf_14 k3 fu x1 x3 x4 x5 (nj j - 1) r = match lastP D x1 x3 x5 j with
    | some v => some (v, r)
    | none => R_priceOf_78 k3 x1 x3 x4 x5 r
  | 0, fu + 1, _, _ => by
    rw [R_priceOf_14.eq_2, nj_0m1, if_pos (by decide)]
    rfl
  | j + 1, fu + 1, h, h160 => by
    have ih := R_priceOf_14_e hD (x1 := x1) (x3 := x3) (x4 := x4) (x5 := x5) k3 j fu (by omega) (by omega)
    have e72 : R_priceOf_72 k3 (fun z0 z1 z2 z3 z4 z5 => R_priceOf_14 k3 fu z0 z1 z2 z3 z4 z5) x1 x3 x4 x5 (nj j) r = R_priceOf_14 k3 fu x1 x3 x4 x5 (nj j - 1) r := by
      unfold R_priceOf_72
      rw [vb_e, nj_am1]
    have e64 : R_priceOf_64 (nj j) r = some (D.1 48 j, r) := by
      unfold R_priceOf_64
      rw [inb_nj (by omega), gd_t (decide_eq_true (by omega)), ix_nj (by omega), ← hD, dat_44 (by omega)]
    rw [R_priceOf_14.eq_2, nj_pred, e72, e64, ih]
    simp (disch := omega) only [nj_nneg, if_false, inb_nj, ix_nj]
    rw [gd_t (decide_eq_true (by omega)), gd_t (decide_eq_true (by omega)), gd_t (decide_eq_true (by omega)), gd_t (decide_eq_true (by omega)), ← dat_44 (r := r) (x := 44) (by omega), ← dat_44 (r := r) (x := 45) (by omega), ← dat_44 (r := r) (x := 46) (by omega), ← dat_44 (r := r) (x := 47) (by omega), hD]
    have hl : lastP D x1 x3 x5 (j + 1) = if isP D x1 x3 x5 j then some (D.1 48 j) else lastP D x1 x3 x5 j := rfl
    rw [hl]
    unfold isP
    by_cases c1 : D.1 44 j = 4 <;> by_cases c2 : D.1 45 j = x1 <;> by_cases c3 : D.1 46 j = x5 <;> by_cases c4 : D.1 47 j = x3 <;> simp only [c1, c2, c3, c4, if_true, if_false, and_self, and_true, true_and, and_false, false_and]
theorem R_priceOf_3_e (hD : dat r = D) {x1 x3 : Int32} {n : Nat} (hn : n ≤ 160) : ∀ (b fu : Nat), b < fu → b < 1000 → R_priceOf_3 fu x1 x3 (nj n) (nj b - 1) r = some (rP D x1 x3 n b, r)
  | 0, fu + 1, _, _ => by
    rw [R_priceOf_3.eq_2, nj_0m1, if_pos (by decide)]
    rfl
  | b + 1, fu + 1, h, hb => by
    rw [R_priceOf_3.eq_2, nj_pred]
    simp (disch := omega) only [nj_nneg, if_false, vb_e]
    rw [R_priceOf_14_e hD _ n FU (by unfold FU; omega) hn]
    unfold rP
    cases lastP D x1 x3 (nj b) n with
    | some v => rfl
    | none =>
      show R_priceOf_78 _ _ _ _ _ _ = _
      unfold R_priceOf_78
      rw [vb_e, nj_am1]
      exact R_priceOf_3_e hD hn b fu (by omega) (by omega)
theorem R_priceOf_e (hD : dat r = D) {x1 x3 : Int32} {q n : Nat} (hn : n ≤ 160) (hq : q ≤ 3) : R_priceOf x1 (nj q) x3 (nj n) r = some (rP D x1 x3 n (q + 1), r) := by
  unfold R_priceOf
  rw [← nj_pred q]
  exact R_priceOf_3_e hD hn (q + 1) FU (by unfold FU; omega) (by omega)
theorem P_lastPrice_9_e (L : LFact fa ta p D) (h160 : D.2.2 ≤ 160) {x1 x3 q : Int32} {n : Nat} (hn : n ≤ D.2.2) : ∀ (d i fu : Nat), i + d = n → d < fu → P_Ledger_lastPrice_9 fu x1 q x3 (nj n) (pP D x1 x3 q i).1 (pP D x1 x3 q i).2 (nj i) p = some ((pP D x1 x3 q n).2, p)
  | 0, i, fu + 1, hi, _ => by
    rw [P_Ledger_lastPrice_9.eq_2]
    simp (disch := omega) only [nj_le]
    rw [if_pos (by omega), show i = n by omega]
  | d + 1, i, fu + 1, hi, hf => by
    have ih := P_lastPrice_9_e L h160 (x1 := x1) (x3 := x3) (q := q) hn d (i + 1) fu (by omega) (by omega)
    obtain ⟨z1, z2, -⟩ := L.2 i (by omega)
    have e80 : ∀ a b, P_Ledger_lastPrice_80 (fun z0 z1 z2 z3 z4 z5 z6 z7 => P_Ledger_lastPrice_9 fu z0 z1 z2 z3 z4 z5 z6 z7) x1 q x3 (nj n) a b (nj i) p = P_Ledger_lastPrice_9 fu x1 q x3 (nj n) a b (nj (i + 1)) p := fun a b => by
      unfold P_Ledger_lastPrice_80
      rw [vb_e, nj_add_l]
    rw [P_Ledger_lastPrice_9.eq_2]
    simp (disch := omega) only [nj_le, inb_nj, ix_nj, e80, P_within_e, bp_s, tI_0, decide_eq_false_iff_not]
    rw [if_neg (by omega), gd_t (decide_eq_true (by omega)), z1, gs_s, gt_t z2.2.1, z2.2.2.2.2.1]
    have hstep : pP D x1 x3 q (i + 1) = if D.1 44 i = 4 ∧ D.1 45 i = x1 ∧ D.1 47 i = x3 ∧ (pP D x1 x3 q i).1 ≤ D.1 46 i ∧ D.1 46 i ≤ q then (D.1 46 i, D.1 48 i) else pP D x1 x3 q i := rfl
    rw [hstep] at ih
    by_cases c1 : D.1 44 i = 4
    · obtain ⟨y2, y3, y4⟩ := z2.2.2.2.2.2.2.1 c1
      have y1 := (z2.2.2.2.2.2.1 (by rw [c1]; decide)).2
      rw [y1, y2, y3, y4]
      by_cases c2 : D.1 45 i = x1 <;> by_cases c3 : D.1 47 i = x3 <;> by_cases c4 : (pP D x1 x3 q i).1 ≤ D.1 46 i ∧ D.1 46 i ≤ q <;> simp only [c1, c2, c3, c4, if_true, if_false, and_self, and_true, true_and, and_false, false_and, not_true_eq_false, not_false_eq_true, vb_e] at ih ⊢ <;> exact ih
    · rw [if_neg c1]
      rw [if_neg (fun z => c1 z.1)] at ih
      exact ih
theorem P_lastPrice_e (L : LFact fa ta p D) (W : WFact D nc) (h160 : D.2.2 ≤ 160) {x1 x3 : Int32} {q n : Nat} (hn : n ≤ D.2.2) (hq : q ≤ 3) : P_Ledger_lastPrice x1 (nj q) x3 (nj n) p = some (rP D x1 x3 n (q + 1), p) := by
  unfold P_Ledger_lastPrice
  rw [← price_eq W hq hn]
  exact P_lastPrice_9_e L h160 hn n 0 FU (by omega) (by unfold FU; omega)
end Sc
