/-! Layer C: the reference's builds -/
section Bu
variable {r r' : Mem} {D : Dt} {nc k of : Nat} {vs : Nat → Int32} {inf : Nat → Bool}
theorem RowsR.keep {k' : Nat} {S : RS} (h : RowsR r k' S) (c : RKeep k of r r') (hl : S.1.length ≤ 64) (hne : k' ≠ k) : RowsR r' k' S := by
  obtain ⟨x1, x2, x3⟩ := c.2.2.1 k' hne
  refine ⟨by rw [x1]; exact h.1, fun j q hq => ?_, by rw [x2]; exact h.2.2.1, by rw [x3]; exact h.2.2.2⟩
  have := get_mem hq
  obtain ⟨y1, y2⟩ := c.2.2.2.1 (64 * k' + j) (by omega)
  rw [y1, y2]
  exact h.2.1 j q hq
theorem RowsR.of_eq {S : RS} (h : RowsR r k S) (e53 : aI r' 53 = aI r 53) (e54 : aI r' 54 = aI r 54) (e55 : aI r' 55 = aI r 55) (e56 : aI r' 56 = aI r 56) (e57 : aI r' 57 = aI r 57) : RowsR r' k S := by
  unfold RowsR
  rw [e53, e54, e55, e56, e57]
  exact h
/-- fates of one TEXT are set -/
theorem R_builds_99_e (hk : k < D.2.1) (h24 : D.2.1 ≤ 24) {m : Nat} (hm : m ≤ 30) (k43 : Int32 → Int32 → Int32 → Int32 → Mem → Option (Unit × Mem)) {x1 x2 x3 : Int32} (y : Bool) : ∀ (e j fu : Nat) (r : Mem), j + e = m → e < fu → aI r 14 k = nj m → aI r 52 k = tI y →
    R_builds_99 k43 fu x1 x2 x3 (nj k) (nj (30 * k + j)) r = R_builds_145 k43 x1 x2 x3 (nj k) (fil r 58 (30 * k + j) (30 * k + m) (tI !y))
  | 0, j, fu + 1, r, hj, _, h14, h52 => by
    rw [R_builds_99.eq_2, inb_nj (by omega), gd_t (decide_eq_true (by omega)), ix_nj (by omega), h14, nj_l_mul, nj_add, if_pos (by rw [nj_le (by omega) (by omega)]; omega), show 30 * k + j = 30 * k + m by omega, fil_nil]
  | e + 1, j, fu + 1, r, hj, hf, h14, h52 => by
    have ih := R_builds_99_e hk h24 hm k43 (x1 := x1) (x2 := x2) (x3 := x3) y e (j + 1) fu (wI r 58 (30 * k + j) (tI !y)) (by omega) (by omega) (by rw [k_aI_wI (by omega)]; exact h14) (by rw [k_aI_wI (by omega)]; exact h52)
    rw [← Nat.add_assoc, fil_step (by omega)] at ih
    rw [R_builds_99.eq_2, inb_nj (by omega), gd_t (decide_eq_true (by omega)), inb_nj (by omega), gd_t (decide_eq_true (by omega)), ix_nj (by omega), h14, nj_l_mul, nj_add, if_neg (by rw [nj_le (by omega) (by omega)]; omega), h52]
    have e138 : ∀ v : Int32, R_builds_138 k43 (fun z0 z1 z2 z3 z4 z5 => R_builds_99 k43 fu z0 z1 z2 z3 z4 z5) x1 x2 x3 (nj k) (nj (30 * k + j)) v (nj (30 * k + j)) r = R_builds_99 k43 fu x1 x2 x3 (nj k) (nj (30 * k + j + 1)) (wI r 58 (30 * k + j) v) := fun v => by
      unfold R_builds_138
      rw [inb_nj (by omega), gd_t (decide_eq_true (by omega)), vb_e, vb_e, ix_nj (by omega), nj_add_l]
    rw [e138, e138]
    cases y with
    | true => rw [if_neg (by decide)]; exact ih
    | false => rw [if_pos (show tI false = 0 from rfl)]; exact ih
/-- what the first pass leaves of the first k0 TEXTS -/
def Bu1 (D : Dt) (vs : Nat → Int32) (inf : Nat → Bool) (k0 : Nat) (r : Mem) : Prop := ∀ k, k < k0 → aI r 52 k = tI (inf k) ∧ RowsR r k ((bW D vs inf).1 k) ∧ ∀ j, j < ix (D.1 14 k) → aI r 58 (30 * k + j) = if inf k then (if isW D k then (bW D vs inf).2 (30 * k + j) else 0) else 1
theorem R_builds_43_e (W : WText D nc) (Wf : WFact D nc) (Wi : WItems D nc) (hn60 : nc ≤ 60) {n : Nat} {d f : Int32} (hn : n ≤ D.2.2) (hinf : ∀ k, k < D.2.1 → inf k = inF D k d f n) :
    ∀ (e k fu : Nat) (r : Mem), k + e = D.2.1 → e < fu → dat r = D → 82 ≤ mC r → mI r 1554 0 = nj D.2.1 → Bu1 D vs inf k r → ∃ r', R_builds_43 fu d f (nj n) (nj k) r = R_builds_191 d f (nj n) r' ∧ Bu1 D vs inf D.2.1 r' ∧ Ch [1610] [51, 52, 53, 54, 55, 56, 57, 58] nil r r' ∧ mC r' = mC r
  | 0, k, fu + 1, r, hk, _, hD, hC, h54, hB => by
    have h24 := W.1
    refine ⟨r, ?_, by rw [show D.2.1 = k by omega]; exact hB, Ch.rfl, rfl⟩
    rw [R_builds_43.eq_2, h54, if_pos (by rw [nj_le (by omega) (by omega)]; omega)]
  | e + 1, k, fu + 1, r, hk, hf, hD, hC, h54, hB => by
    have h24 := W.1
    have h160 := W.2.1
    have h14 := h14_of W
    have hkD : k < D.2.1 := by omega
    obtain ⟨m, hm, em⟩ := h14 k hkD
    have im : ix (D.1 14 k) = m := by rw [em, ix_nj (by omega)]
    have gk : ∀ {β : Type} (c : Option β), gd (inb (nj k) 24) c = c := fun c => by rw [inb_nj (by omega), gd_t (decide_eq_true (by omega))]
    have gk5 : ∀ {β : Type} (c : Option β), gd (inb (nj k) 25) c = c := fun c => by rw [inb_nj (by omega), gd_t (decide_eq_true (by omega))]
    have ik : ix (nj k) = k := ix_nj (by omega)
    -- the memory once the TEXT's own numbers are set
    obtain ⟨r0, hr0⟩ : ∃ r0, r0 = fil (wI (wI (wI (wI r 52 k (tI (inf k))) 53 k 0) 56 k 0) 57 k 1) 58 (30 * k) (30 * k + m) (tI !inf k) := ⟨_, rfl⟩
    have c0 : Ch [1610] [51, 52, 53, 54, 55, 56, 57, 58] nil r r0 := by
      rw [hr0]
      exact ch_fil ((((Ch.rfl.wI (Or.inl (by decide))).wI (Or.inl (by decide))).wI (Or.inl (by decide))).wI (Or.inl (by decide))) (Or.inl (by decide))
    have hC0 : mC r0 = mC r := by rw [hr0, k_mC_fil, k_mC_wI, k_mC_wI, k_mC_wI, k_mC_wI]
    have hD0 : dat r0 = D := by rw [← hD]; exact dat_Ch c0 hC (by decide) (by decide)
    have a52 : aI r0 52 = up1 (aI r 52) k (tI (inf k)) := by rw [hr0, k_aI_fil (by omega), k_aI_wI (by omega), k_aI_wI (by omega), k_aI_wI (by omega), k_aI_wI_e]
    have a53 : aI r0 53 = up1 (aI r 53) k 0 := by rw [hr0, k_aI_fil (by omega), k_aI_wI (by omega), k_aI_wI (by omega), k_aI_wI_e, k_aI_wI (by omega)]
    have a54 : aI r0 54 = aI r 54 := by rw [hr0, k_aI_fil (by omega), k_aI_wI (by omega), k_aI_wI (by omega), k_aI_wI (by omega), k_aI_wI (by omega)]
    have a55 : aI r0 55 = aI r 55 := by rw [hr0, k_aI_fil (by omega), k_aI_wI (by omega), k_aI_wI (by omega), k_aI_wI (by omega), k_aI_wI (by omega)]
    have a56 : aI r0 56 = up1 (aI r 56) k 0 := by rw [hr0, k_aI_fil (by omega), k_aI_wI (by omega), k_aI_wI_e, k_aI_wI (by omega), k_aI_wI (by omega)]
    have a57 : aI r0 57 = up1 (aI r 57) k 1 := by rw [hr0, k_aI_fil (by omega), k_aI_wI_e, k_aI_wI (by omega), k_aI_wI (by omega), k_aI_wI (by omega)]
    have a58 : ∀ x, aI r0 58 x = if 30 * k ≤ x ∧ x < 30 * k + m then tI !inf k else aI r 58 x := fun x => by rw [hr0, k_aI_fil_e, k_aI_wI (by omega), k_aI_wI (by omega), k_aI_wI (by omega), k_aI_wI (by omega)]
    have hR0 : RowsR r0 k ini := by
      refine ⟨?_, fun j q hq => absurd hq (by simp [ini]), ?_, ?_⟩
      · rw [a53, up1_eq]; rfl
      · rw [a56, up1_eq]; rfl
      · rw [a57, up1_eq]; rfl
    have hB0 : Bu1 D vs inf k r0 := fun x hx => by
      obtain ⟨b1, b2, b3⟩ := hB x hx
      refine ⟨by rw [a52, up1_ne (by omega)]; exact b1, ⟨by rw [a53, up1_ne (by omega)]; exact b2.1, fun j q hq => by rw [a54, a55]; exact b2.2.1 j q hq, by rw [a56, up1_ne (by omega)]; exact b2.2.2.1, by rw [a57, up1_ne (by omega)]; exact b2.2.2.2⟩, fun j hj => ?_⟩
      have := h30_of h14 x (by omega)
      rw [a58, if_neg (by omega)]
      exact b3 j hj
    have K : ∀ r1, Ch [1610] [51, 52, 53, 54, 55, 56, 57, 58] nil r r1 → mC r1 = mC r → Bu1 D vs inf (k + 1) r1 → ∃ r', R_builds_185 (fun z0 z1 z2 z3 z4 => R_builds_43 fu z0 z1 z2 z3 z4) d f (nj n) (nj k) r1 = R_builds_191 d f (nj n) r' ∧ Bu1 D vs inf D.2.1 r' ∧ Ch [1610] [51, 52, 53, 54, 55, 56, 57, 58] nil r r' ∧ mC r' = mC r := by
      intro r1 c1 c2 hB1
      obtain ⟨r', e1, e2, e3, e4⟩ := R_builds_43_e W Wf Wi hn60 hn hinf e (k + 1) fu r1 (by omega) (by omega) (by rw [← hD]; exact dat_Ch c1 hC (by decide) (by decide)) (by omega) (by rw [c1.i (by decide) (by omega)]; exact h54) hB1
      refine ⟨r', ?_, e2, c1.trans e3, e4.trans c2⟩
      unfold R_builds_185
      rw [vb_e, nj_add_l]
      exact e1
    rw [R_builds_43.eq_2, h54, if_neg (by rw [nj_le (by omega) (by omega)]; omega), R_isIn_e hD W Wf hkD hn, bn_s, ← hinf k hkD]
    simp only [gk, ik, gz_tI, vb_e]
    have h99 := R_builds_99_e hkD h24 hm (fun z0 z1 z2 z3 z4 => R_builds_43 fu z0 z1 z2 z3 z4) (x1 := d) (x2 := f) (x3 := nj n) (inf k) m 0 FU (wI (wI (wI (wI r 52 k (tI (inf k))) 53 k 0) 56 k 0) 57 k 1) (by omega) (by unfold FU; omega) (by rw [k_aI_wI (by omega), k_aI_wI (by omega), k_aI_wI (by omega), k_aI_wI (by omega), dat_t hD (by omega) hkD, em]) (by rw [k_aI_wI (by omega), k_aI_wI (by omega), k_aI_wI (by omega), k_aI_wI_e, up1_eq])
    rw [Nat.add_zero] at h99
    rw [nj_l_mul, h99, ← hr0]
    have e8 : aI r0 8 k = D.1 8 k := dat_t hD0 (by omega) hkD
    unfold R_builds_145
    simp only [gk, gk5, ik, e8]
    rw [a52, up1_eq]
    have step0 : (inf k && isW D k) = false → Bu1 D vs inf (k + 1) r0 := fun hfl x hx => by
      by_cases c : x = k
      · subst c
        have eB : (bW D vs inf).1 x = ini := by
          show (if (inf x && isW D x) = true then _ else _) = _
          rw [hfl]; rfl
        refine ⟨by rw [a52, up1_eq], by rw [eB]; exact hR0, fun j hj => ?_⟩
        rw [im] at hj
        rw [a58, if_pos (by omega)]
        cases hi : inf x with
        | false => rfl
        | true =>
          have : isW D x = false := by rw [hi] at hfl; simpa using hfl
          rw [this]; rfl
      · exact hB0 x (by omega)
    cases hin : inf k with
    | false =>
      rw [if_pos (show tI false = 0 from rfl)]
      exact K r0 c0 hC0 (step0 (by rw [hin]; rfl))
    | true =>
      rw [if_neg (by decide)]
      have W176 : isW D k = true → ∃ r', R_builds_176 (fun z0 z1 z2 z3 z4 => R_builds_43 fu z0 z1 z2 z3 z4) d f (nj n) (nj k) r0 = R_builds_191 d f (nj n) r' ∧ Bu1 D vs inf D.2.1 r' ∧ Ch [1610] [51, 52, 53, 54, 55, 56, 57, 58] nil r r' ∧ mC r' = mC r := by
        intro hw
        have h60 : D.1 8 k = 0 ∨ D.1 8 k = 3 := of_decide_eq_true hw
        obtain ⟨-, ⟨tf, t1, t2, -⟩, -⟩ := W.2.2.1 k hkD
        have htn : tf ≤ n := by
          have hin' := hin
          rw [hinf k hkD] at hin'
          unfold inF at hin'
          simp only [Bool.and_eq_true, decide_eq_true_eq] at hin'
          have := hin'.1.1.1
          rw [t2, nj_lt (by omega) (by omega)] at this
          omega
        have nv : ¬ (D.1 8 k = 1 ∨ D.1 8 k = 2) := by
          rcases h60 with h | h <;> (rw [h]; decide)
        obtain ⟨r1, f1, f2, f3, f4⟩ := R_adds_e (vs := vs) hD0 (by omega) h24 h160 hn60 Wi h14 hkD hkD (fun h => absurd h nv) t2 htn hn (by rcases h60 with h | h; exact Or.inl h; exact Or.inr (Or.inr (Or.inr h))) ini_W (fun h => absurd h nv) hR0 (fun x hx => by rw [im] at hx; rw [a58, if_pos (by omega), hin]; rfl)
        have c1 : Ch [1610] [51, 52, 53, 54, 55, 56, 57, 58] nil r r1 := c0.trans (f4.1.mono (fun _ h => h) (by decide) (fun _ h => h))
        have e52 : aI r1 52 = aI r0 52 := f4.1.ai (by decide) nil_no (by omega)
        unfold R_builds_176
        rw [f1, bn_s]
        refine K r1 c1 (f4.2.1.trans hC0) fun x hx => ?_
        by_cases c : x = k
        · subst c
          have eB : (bW D vs inf).1 x = stS D vs x ini (ix (D.1 14 x)) := by
            show (if (inf x && isW D x) = true then _ else _) = _
            rw [hin, hw]; rfl
          refine ⟨by rw [e52, a52, up1_eq, hin], by rw [eB]; exact f2, fun j hj => ?_⟩
          rw [hin, hw]
          show _ = (bW D vs inf).2 (30 * x + j)
          show _ = if (inf ((30 * x + j) / 30) && isW D ((30 * x + j) / 30)) = true then ftS D vs ((30 * x + j) / 30) ini ((30 * x + j) % 30) else 0
          have hj' := hj
          rw [im] at hj'
          rw [show (30 * x + j) / 30 = x by omega, show (30 * x + j) % 30 = j by omega, hin, hw]
          exact f3 j hj
        · obtain ⟨b1, b2, b3⟩ := hB0 x (by omega)
          have hx30 := h30_of h14 x (by omega)
          refine ⟨by rw [e52]; exact b1, b2.keep f4 ?_ c, fun j hj => ?_⟩
          · have := (bW_W (vs := vs) inf (show x < D.2.1 by omega)).len Wi hn60
            omega
          · rw [f4.2.2.2.2 (30 * x + j) (by omega)]
            exact b3 j hj
      by_cases q0 : D.1 8 k = 0
      · rw [if_pos q0]; exact W176 (decide_eq_true (Or.inl q0))
      · rw [if_neg q0]
        by_cases q3 : D.1 8 k = 3
        · rw [if_pos q3]; exact W176 (decide_eq_true (Or.inr q3))
        · rw [if_neg q3]
          exact K r0 c0 hC0 (step0 (by rw [hin]; exact decide_eq_false (by rintro (h | h); exact q0 h; exact q3 h)))
end Bu
