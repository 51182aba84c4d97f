/-! Layer C: the reference's builds, second pass -/
def vq (D : Dt) (inf : Nat → Bool) (t : Nat) : Bool := inf t && !isW D t
/-- varies and orders in force, by their DAYS up to fr, then the first k of the DAY fr -/
def lst (D : Dt) (inf : Nat → Bool) (fr k : Nat) : List Nat := ((List.range fr).flatMap fun g => (List.range D.2.1).filter fun t => vq D inf t && decide (D.1 11 t = nj g)) ++ (List.range k).filter fun t => vq D inf t && decide (D.1 11 t = nj fr)
def pf (D : Dt) (inf : Nat → Bool) (t : Nat) : Bool := inf (ix (D.1 13 t))
noncomputable def bL (D : Dt) (vs : Nat → Int32) (inf : Nat → Bool) (l : List Nat) : BSt := (l.filter (pf D inf)).foldl (bV D vs) (bW D vs inf)
/-- what stands once the list l is done -/
def Bu2 (D : Dt) (vs : Nat → Int32) (inf : Nat → Bool) (l : List Nat) (r : Mem) : Prop := (∀ k, k < D.2.1 → aI r 52 k = tI (inf k)) ∧ (∀ k, k < D.2.1 → RowsR r k ((bL D vs inf l).1 k)) ∧
  ∀ k j, k < D.2.1 → j < ix (D.1 14 k) → aI r 58 (30 * k + j) = if inf k then (if isW D k then (bL D vs inf l).2 (30 * k + j) else if k ∈ l then (if pf D inf k then (bL D vs inf l).2 (30 * k + j) else 1) else 0) else 1
section Bv
variable {r r' : Mem} {D : Dt} {nc k of : Nat} {vs : Nat → Int32} {inf : Nat → Bool}
theorem lst_k {fr k : Nat} : lst D inf fr (k + 1) = lst D inf fr k ++ (if (vq D inf k && decide (D.1 11 k = nj fr)) = true then [k] else []) := by
  unfold lst
  rw [List.range_succ, List.filter_append, List.append_assoc]
  congr 2
  by_cases c : (vq D inf k && decide (D.1 11 k = nj fr)) = true
  · rw [if_pos c]; simp only [List.filter_cons, c, if_true, List.filter_nil]
  · rw [if_neg c]; simp only [List.filter_cons, if_neg c, List.filter_nil]
theorem lst_f {fr : Nat} : lst D inf (fr + 1) 0 = lst D inf fr D.2.1 := by
  unfold lst
  rw [List.range_succ, List.flatMap_append]
  simp
theorem lst_mem {fr k x : Nat} (h : x ∈ lst D inf fr k) (hk : k ≤ D.2.1) : x < D.2.1 ∧ vq D inf x = true ∧ ((∃ g, g < fr ∧ D.1 11 x = nj g) ∨ (x < k ∧ D.1 11 x = nj fr)) := by
  unfold lst at h
  rw [List.mem_append, List.mem_flatMap, List.mem_filter] at h
  rcases h with ⟨g, hg, h⟩ | h
  · rw [List.mem_filter] at h
    simp only [List.mem_range, Bool.and_eq_true, decide_eq_true_eq] at h hg
    exact ⟨h.1, h.2.1, Or.inl ⟨g, hg, h.2.2⟩⟩
  · simp only [List.mem_range, Bool.and_eq_true, decide_eq_true_eq] at h
    exact ⟨by omega, h.2.1, Or.inr ⟨h.1, h.2.2⟩⟩
theorem bL_W (W : WText D nc) (l : List Nat) (hl : ∀ t, t ∈ l → t < D.2.1) (hk : k < D.2.1) : WRow D ((bL D vs inf l).1 k).1 :=
  bVs_W (B := bW D vs inf) (fun x hx => by
    obtain ⟨q', y1, y2, -⟩ := (W.2.2.1 x hx).2.2.2.2.2.2.1
    have := W.1
    rw [y2, ix_nj (by omega)]
    omega) _ _ (fun x hx => hl x (List.mem_filter.mp hx).1) (fun k hk => bW_W inf hk) k hk
theorem R_builds_281_e (h24 : D.2.1 ≤ 24) (hk : k < D.2.1) {m : Nat} (hm : m ≤ 30) (k194 : Int32 → Int32 → Int32 → Int32 → Mem → Option (Unit × Mem)) (k203 : Int32 → Int32 → Int32 → Int32 → Int32 → Mem → Option (Unit × Mem)) {x1 x2 x3 x4 : Int32} : ∀ (e j fu : Nat) (r : Mem), j + e = m → e < fu → aI r 14 k = nj m →
    R_builds_281 k194 k203 fu x1 x2 x3 x4 (nj k) (nj (30 * k + j)) r = R_builds_313 k194 k203 x1 x2 x3 x4 (nj k) (fil r 58 (30 * k + j) (30 * k + m) 1)
  | 0, j, fu + 1, r, hj, _, h14 => by
    rw [R_builds_281.eq_2, inb_nj (by omega), gd_t (decide_eq_true (by omega)), ix_nj (by omega), h14, nj_l_mul, nj_add, if_pos (by rw [nj_le (by omega) (by omega)]; omega), show 30 * k + j = 30 * k + m by omega, fil_nil]
  | e + 1, j, fu + 1, r, hj, hf, h14 => by
    have ih := R_builds_281_e h24 hk hm k194 k203 (x1 := x1) (x2 := x2) (x3 := x3) (x4 := x4) e (j + 1) fu (wI r 58 (30 * k + j) 1) (by omega) (by omega) (by rw [k_aI_wI (by omega)]; exact h14)
    rw [← Nat.add_assoc, fil_step (by omega)] at ih
    rw [R_builds_281.eq_2, inb_nj (by omega), gd_t (decide_eq_true (by omega)), ix_nj (by omega), h14, nj_l_mul, nj_add, if_neg (by rw [nj_le (by omega) (by omega)]; omega), inb_nj (by omega), gd_t (decide_eq_true (by omega)), vb_e, vb_e, ix_nj (by omega), nj_add_l]
    exact ih
/-- one vary or order of the second pass -/
theorem R_builds_259_e (W : WText D nc) (Wi : WItems D nc) (hn60 : nc ≤ 60) {d f n fr : Nat} (hd : d < 140) (hf : f < 8) (hn : n ≤ D.2.2) (hvs : vs = vS D f d n 0) (hinf : ∀ k, k < D.2.1 → inf k = inF D k (nj d) (nj f) n) (hD : dat r = D) (hC : 82 ≤ mC r) {t : Nat} (ht : t < D.2.1) {l : List Nat} (hl : ∀ t, t ∈ l → t < D.2.1) (hB : Bu2 D vs inf l r) (hv : vq D inf t = true) (hnl : t ∉ l)
    (k194 : Int32 → Int32 → Int32 → Int32 → Mem → Option (Unit × Mem)) (k203 : Int32 → Int32 → Int32 → Int32 → Int32 → Mem → Option (Unit × Mem)) : ∃ r1, R_builds_259 k194 k203 (nj d) (nj f) (nj n) (nj fr) (nj t) r = k203 (nj d) (nj f) (nj n) (nj fr) (nj (t + 1)) r1 ∧ Bu2 D vs inf (l ++ [t]) r1 ∧ Ch [1610] [50, 51, 52, 53, 54, 55, 56, 57, 58] nil r r1 ∧ mC r1 = mC r := by
  have h24 := W.1
  have h160 := W.2.1
  have h14 := h14_of W
  obtain ⟨m, hm, em⟩ := h14 t ht
  have im : ix (D.1 14 t) = m := by rw [em, ix_nj (by omega)]
  obtain ⟨q, z1, z2, z3, z4, z5, z6⟩ := (W.2.2.1 t ht).2.2.2.2.2.2.1
  have hq : q < D.2.1 := by omega
  have iq : ix (D.1 13 t) = q := by rw [z2, ix_nj (by omega)]
  have hin : inf t = true := by
    unfold vq at hv
    simp only [Bool.and_eq_true] at hv
    exact hv.1
  have hw : isW D t = false := by
    unfold vq at hv
    simp only [Bool.and_eq_true, Bool.not_eq_true'] at hv
    exact hv.2
  have n03 : ¬ (D.1 8 t = 0 ∨ D.1 8 t = 3) := of_decide_eq_false hw
  have hqt : q < t := z6 (fun h => n03 (Or.inl h))
  obtain ⟨s, s1, s2⟩ := (W.2.2.1 t ht).1
  have h12 : D.1 8 t = 1 ∨ D.1 8 t = 2 := by
    have : s = 0 ∨ s = 1 ∨ s = 2 ∨ s = 3 := by omega
    rcases this with h | h | h | h
    · exact absurd (Or.inl (by rw [s2, h]; rfl)) n03
    · exact Or.inl (by rw [s2, h]; rfl)
    · exact Or.inr (by rw [s2, h]; rfl)
    · exact absurd (Or.inr (by rw [s2, h]; rfl)) n03
  have wq : isW D q = true := decide_eq_true (Or.inl z3)
  have gt5 : ∀ {β : Type} (c : Option β), gd (inb (nj t) 25) c = c := fun c => by rw [inb_nj (by omega), gd_t (decide_eq_true (by omega))]
  have it : ix (nj t) = t := ix_nj (by omega)
  have e337 : ∀ r1, R_builds_337 k194 k203 (nj d) (nj f) (nj n) (nj fr) (nj t) r1 = k203 (nj d) (nj f) (nj n) (nj fr) (nj (t + 1)) r1 := fun r1 => by
    unfold R_builds_337
    rw [vb_e, nj_add_l]
  unfold R_builds_259
  simp only [gt5, it, dat_t hD (x := 13) (by omega) ht]
  rw [z2, inb_nj (by omega), gd_t (decide_eq_true (by omega)), ix_nj (by omega), hB.1 q hq]
  cases hinq : inf q with
  | false =>
    have hpf : pf D inf t = false := by unfold pf; rw [iq]; exact hinq
    have hbl : bL D vs inf (l ++ [t]) = bL D vs inf l := by
      unfold bL
      rw [List.filter_append]
      simp [hpf]
    have h281 := R_builds_281_e h24 ht hm k194 k203 (x1 := nj d) (x2 := nj f) (x3 := nj n) (x4 := nj fr) m 0 FU r (by omega) (by unfold FU; omega) (by rw [dat_t hD (by omega) ht, em])
    rw [Nat.add_zero] at h281
    rw [if_pos (show tI false = 0 from rfl), vb_e, nj_l_mul, h281]
    unfold R_builds_313
    rw [e337]
    refine ⟨_, rfl, ⟨fun k hk => ?_, fun k hk => ?_, fun k j hk hj => ?_⟩, ch_fil Ch.rfl (Or.inl (by decide)), by rw [k_mC_fil]⟩
    · rw [k_aI_fil (by omega)]; exact hB.1 k hk
    · rw [hbl]; exact (hB.2.1 k hk).of_eq (k_aI_fil (by omega)) (k_aI_fil (by omega)) (k_aI_fil (by omega)) (k_aI_fil (by omega)) (k_aI_fil (by omega))
    · have hk30 := h30_of h14 k hk
      rw [hbl, k_aI_fil_e]
      show (if 30 * t ≤ 30 * k + j ∧ 30 * k + j < 30 * t + m then 1 else aI r 58 (30 * k + j)) = _
      by_cases c : k = t
      · subst c
        rw [im] at hj
        rw [if_pos (by omega), hin, hw, hpf]
        simp
      · rw [if_neg (by omega), hB.2.2 k j hk hj]
        have : (k ∈ l ++ [t]) = (k ∈ l) := by
          rw [List.mem_append, List.mem_singleton]
          exact propext ⟨fun h => h.resolve_right c, Or.inl⟩
        simp only [this]
  | true =>
    have hpf : pf D inf t = true := by unfold pf; rw [iq]; exact hinq
    have hbl : bL D vs inf (l ++ [t]) = bV D vs (bL D vs inf l) t := by
      unfold bL
      rw [List.filter_append, List.foldl_append]
      simp [hpf]
    obtain ⟨r1, u1, u2, u3, u4⟩ := R_stands_e hD hC h160 hd hf hn
    have hD1 : dat r1 = D := by rw [← hD]; exact dat_Ch u3 hC (by decide) (by decide)
    have ue : ∀ a, a ≠ 50 → a < 82 → aI r1 a = aI r a := fun a h1 h2 => u3.ai (by simp; exact h1) nil_no (by omega)
    obtain ⟨-, ⟨tf, t1, t2, -⟩, -⟩ := W.2.2.1 t ht
    have htn : tf ≤ n := by
      have hin' := hin
      rw [hinf t ht] at hin'
      unfold inF at hin'
      simp only [Bool.and_eq_true, decide_eq_true_eq] at hin'
      have := hin'.1.1.1
      rw [t2, nj_lt (by omega) (by omega)] at this
      omega
    have hfz : ∀ x, x < ix (D.1 14 t) → aI r1 58 (30 * t + x) = 0 := fun x hx => by
      rw [ue 58 (by omega) (by omega), hB.2.2 t x ht hx, hin, hw]
      simp [hnl]
    obtain ⟨r2, f1, f2, f3, f4⟩ := R_adds_e (vs := vs) hD1 (by omega) h24 h160 hn60 Wi h14 hq ht (fun _ => z2) t2 htn hn (by rcases h12 with h | h; exact Or.inr (Or.inl h); exact Or.inr (Or.inr (Or.inl h))) (bL_W W l hl hq) (fun _ j hj => by rw [u2 j hj, hvs]) ((hB.2.1 q hq).of_eq (ue 53 (by omega) (by omega)) (ue 54 (by omega) (by omega)) (ue 55 (by omega) (by omega)) (ue 56 (by omega) (by omega)) (ue 57 (by omega) (by omega))) hfz
    rw [if_neg (by decide), u1, bn_s, dat_t hD1 (by omega) ht, z2, f1, bn_s, e337]
    refine ⟨r2, rfl, ⟨fun k hk => ?_, fun k hk => ?_, fun k j hk hj => ?_⟩, (u3.mono (fun _ h => absurd h List.not_mem_nil) (by decide) (fun _ h => h)).trans (f4.1.mono (fun _ h => h) (by decide) (fun _ h => h)), f4.2.1.trans u4⟩
    · rw [f4.1.ai (by decide) nil_no (by omega), ue 52 (by omega) (by omega)]; exact hB.1 k hk
    · rw [hbl]
      show RowsR r2 k (up1 _ (ix (D.1 13 t)) _ k)
      rw [iq, up1_ap]
      by_cases c : k = q
      · rw [if_pos c, c]; exact f2
      · rw [if_neg c]
        have hlen := (bL_W (vs := vs) (inf := inf) W l hl hk).len Wi hn60
        exact ((hB.2.1 k hk).of_eq (ue 53 (by omega) (by omega)) (ue 54 (by omega) (by omega)) (ue 55 (by omega) (by omega)) (ue 56 (by omega) (by omega)) (ue 57 (by omega) (by omega))).keep f4 (by omega) c
    · have hk30 := h30_of h14 k hk
      have eb : (bL D vs inf (l ++ [t])).2 (30 * k + j) = if k = t then ftS D vs t ((bL D vs inf l).1 q) j else (bL D vs inf l).2 (30 * k + j) := by
        rw [hbl]
        show (if (30 * k + j) / 30 = t then ftS D vs t ((bL D vs inf l).1 (ix (D.1 13 t))) ((30 * k + j) % 30) else _) = _
        rw [show (30 * k + j) / 30 = k by omega, show (30 * k + j) % 30 = j by omega, iq]
      rw [eb]
      by_cases c : k = t
      · subst c
        rw [if_pos rfl, f3 j hj, hin, hw, hpf]
        simp
      · rw [if_neg c, f4.2.2.2.2 (30 * k + j) (by omega), ue 58 (by omega) (by omega), hB.2.2 k j hk hj]
        have : (k ∈ l ++ [t]) = (k ∈ l) := by
          rw [List.mem_append, List.mem_singleton]
          exact propext ⟨fun h => h.resolve_right c, Or.inl⟩
        simp only [this]
theorem R_builds_203_e (W : WText D nc) (Wi : WItems D nc) (hn60 : nc ≤ 60) {d f n fr : Nat} (hd : d < 140) (hf : f < 8) (hn : n ≤ D.2.2) (hfr : fr ≤ 139) (hvs : vs = vS D f d n 0) (hinf : ∀ k, k < D.2.1 → inf k = inF D k (nj d) (nj f) n) (k194 : Int32 → Int32 → Int32 → Int32 → Mem → Option (Unit × Mem)) :
    ∀ (e k fu : Nat) (r : Mem), k + e = D.2.1 → e < fu → dat r = D → 82 ≤ mC r → mI r 1554 0 = nj D.2.1 → Bu2 D vs inf (lst D inf fr k) r → ∃ r', R_builds_203 k194 fu (nj d) (nj f) (nj n) (nj fr) (nj k) r = k194 (nj d) (nj f) (nj n) (nj (fr + 1)) r' ∧ Bu2 D vs inf (lst D inf (fr + 1) 0) r' ∧ Ch [1610] [50, 51, 52, 53, 54, 55, 56, 57, 58] nil r r' ∧ mC r' = mC r
  | 0, k, fu + 1, r, hk, _, hD, hC, h54, hB => by
    have h24 := W.1
    refine ⟨r, ?_, by rw [lst_f, show D.2.1 = k by omega]; exact hB, Ch.rfl, rfl⟩
    rw [R_builds_203.eq_2, h54, if_pos (by rw [nj_le (by omega) (by omega)]; omega)]
    unfold R_builds_343
    rw [vb_e, nj_add_l]
  | e + 1, k, fu + 1, r, hk, hfu, hD, hC, h54, hB => by
    have h24 := W.1
    have hkD : k < D.2.1 := by omega
    have K : ∀ r1, Ch [1610] [50, 51, 52, 53, 54, 55, 56, 57, 58] nil r r1 → mC r1 = mC r → Bu2 D vs inf (lst D inf fr (k + 1)) r1 → ∃ r', R_builds_203 k194 fu (nj d) (nj f) (nj n) (nj fr) (nj (k + 1)) r1 = k194 (nj d) (nj f) (nj n) (nj (fr + 1)) r' ∧ Bu2 D vs inf (lst D inf (fr + 1) 0) r' ∧ Ch [1610] [50, 51, 52, 53, 54, 55, 56, 57, 58] nil r r' ∧ mC r' = mC r := by
      intro r1 c1 c2 hB1
      obtain ⟨r', e1, e2, e3, e4⟩ := R_builds_203_e W Wi hn60 hd hf hn hfr hvs hinf k194 e (k + 1) fu r1 (by omega) (by omega) (by rw [← hD]; exact dat_Ch c1 hC (by decide) (by decide)) (by omega) (by rw [c1.i (by decide) (by omega)]; exact h54) hB1
      exact ⟨r', e1, e2, c1.trans e3, e4.trans c2⟩
    have e337 : R_builds_337 k194 (fun z0 z1 z2 z3 z4 z5 => R_builds_203 k194 fu z0 z1 z2 z3 z4 z5) (nj d) (nj f) (nj n) (nj fr) (nj k) r = R_builds_203 k194 fu (nj d) (nj f) (nj n) (nj fr) (nj (k + 1)) r := by
      unfold R_builds_337
      rw [vb_e, nj_add_l]
    have KN : (vq D inf k && decide (D.1 11 k = nj fr)) = false → ∃ r', R_builds_203 k194 fu (nj d) (nj f) (nj n) (nj fr) (nj (k + 1)) r = k194 (nj d) (nj f) (nj n) (nj (fr + 1)) r' ∧ Bu2 D vs inf (lst D inf (fr + 1) 0) r' ∧ Ch [1610] [50, 51, 52, 53, 54, 55, 56, 57, 58] nil r r' ∧ mC r' = mC r := fun h => K r Ch.rfl rfl (by rw [lst_k, h]; simpa using hB)
    have gk : ∀ {β : Type} (c : Option β), gd (inb (nj k) 24) c = c := fun c => by rw [inb_nj (by omega), gd_t (decide_eq_true (by omega))]
    have gk5 : ∀ {β : Type} (c : Option β), gd (inb (nj k) 25) c = c := fun c => by rw [inb_nj (by omega), gd_t (decide_eq_true (by omega))]
    have ik : ix (nj k) = k := ix_nj (by omega)
    rw [R_builds_203.eq_2, h54, if_neg (by rw [nj_le (by omega) (by omega)]; omega)]
    simp only [gk, gk5, ik, dat_t hD (x := 11) (by omega) hkD, dat_t hD (x := 8) (by omega) hkD, e337]
    rw [hB.1 k hkD]
    cases hin : inf k with
    | false =>
      rw [if_pos (show tI false = 0 from rfl)]
      exact KN (by unfold vq; rw [hin]; rfl)
    | true =>
      rw [if_neg (by decide)]
      by_cases q11 : D.1 11 k = nj fr
      · rw [if_pos q11]
        have V : isW D k = false → ∃ r', R_builds_259 k194 (fun z0 z1 z2 z3 z4 z5 => R_builds_203 k194 fu z0 z1 z2 z3 z4 z5) (nj d) (nj f) (nj n) (nj fr) (nj k) r = k194 (nj d) (nj f) (nj n) (nj (fr + 1)) r' ∧ Bu2 D vs inf (lst D inf (fr + 1) 0) r' ∧ Ch [1610] [50, 51, 52, 53, 54, 55, 56, 57, 58] nil r r' ∧ mC r' = mC r := by
          intro hw
          have hv : vq D inf k = true := by unfold vq; rw [hin, hw]; rfl
          obtain ⟨r1, g1, g2, g3, g4⟩ := R_builds_259_e (fr := fr) W Wi hn60 hd hf hn hvs hinf hD hC hkD (fun t ht => (lst_mem ht (by omega)).1) hB hv (fun hm => by
            rcases (lst_mem hm (by omega)).2.2 with ⟨g, hg, eg⟩ | ⟨h, -⟩
            · rw [q11, nj_inj (by omega) (by omega)] at eg; omega
            · omega) k194 (fun z0 z1 z2 z3 z4 z5 => R_builds_203 k194 fu z0 z1 z2 z3 z4 z5)
          obtain ⟨r', e1, e2, e3, e4⟩ := K r1 g3 g4 (by rw [lst_k, hv, decide_eq_true q11]; exact g2)
          exact ⟨r', g1.trans e1, e2, e3, e4⟩
        by_cases q1 : D.1 8 k = 1
        · rw [if_pos q1]; exact V (decide_eq_false (by rw [q1]; decide))
        · rw [if_neg q1]
          by_cases q2 : D.1 8 k = 2
          · rw [if_pos q2]; exact V (decide_eq_false (by rw [q2]; decide))
          · rw [if_neg q2]
            refine KN ?_
            have : isW D k = true := by
              obtain ⟨s, s1, s2⟩ := (W.2.2.1 k hkD).1
              refine decide_eq_true ?_
              have : s = 0 ∨ s = 1 ∨ s = 2 ∨ s = 3 := by omega
              rcases this with h | h | h | h
              · exact Or.inl (by rw [s2, h]; rfl)
              · exact absurd (by rw [s2, h]; rfl) q1
              · exact absurd (by rw [s2, h]; rfl) q2
              · exact Or.inr (by rw [s2, h]; rfl)
            unfold vq
            rw [this]
            simp
      · rw [if_neg q11]
        exact KN (by rw [decide_eq_false q11]; simp)
theorem R_builds_194_e (W : WText D nc) (Wi : WItems D nc) (hn60 : nc ≤ 60) {d f n : Nat} (hd : d < 140) (hf : f < 8) (hn : n ≤ D.2.2) (hvs : vs = vS D f d n 0) (hinf : ∀ k, k < D.2.1 → inf k = inF D k (nj d) (nj f) n) :
    ∀ (e fr fu : Nat) (r : Mem), fr + e = d + 1 → e < fu → dat r = D → 82 ≤ mC r → mI r 1554 0 = nj D.2.1 → Bu2 D vs inf (lst D inf fr 0) r → ∃ r', R_builds_194 fu (nj d) (nj f) (nj n) (nj fr) r = some ((), r') ∧ Bu2 D vs inf (lst D inf (d + 1) 0) r' ∧ Ch [1610] [50, 51, 52, 53, 54, 55, 56, 57, 58] nil r r' ∧ mC r' = mC r
  | 0, fr, fu + 1, r, hfr, _, hD, hC, h54, hB => by
    refine ⟨r, ?_, by rw [show d + 1 = fr by omega]; exact hB, Ch.rfl, rfl⟩
    rw [R_builds_194.eq_2, if_pos (by rw [nj_lt (by omega) (by omega)]; omega)]
  | e + 1, fr, fu + 1, r, hfr, hfu, hD, hC, h54, hB => by
    have h24 := W.1
    obtain ⟨r1, g1, g2, g3, g4⟩ := R_builds_203_e W Wi hn60 hd hf hn (show fr ≤ 139 by omega) hvs hinf (fun z0 z1 z2 z3 z4 => R_builds_194 fu z0 z1 z2 z3 z4) D.2.1 0 FU r (by omega) (by unfold FU; omega) hD hC h54 hB
    obtain ⟨r', e1, e2, e3, e4⟩ := R_builds_194_e W Wi hn60 hd hf hn hvs hinf e (fr + 1) fu r1 (by omega) (by omega) (by rw [← hD]; exact dat_Ch g3 hC (by decide) (by decide)) (by omega) (by rw [g3.i (by decide) (by omega)]; exact h54) g2
    refine ⟨r', ?_, e2, g3.trans e3, e4.trans g4⟩
    rw [R_builds_194.eq_2, if_neg (by rw [nj_lt (by omega) (by omega)]; omega)]
    exact g1.trans e1
end Bv
