/-! Layer C: the class chooses among what binds a HALF -/
section Bq
variable {fa ta ia sa ca : Nat → Nat} {od : List Nat} {p : Mem} {D : Dt} {nc : Nat} {vs : Nat → Int32} {tk : Int32} {inf : Nat → Bool}
/-- awards that bind and that none outdoes -/
def uB (D : Dt) (B : Nat → Bool) (k : Nat) : Bool := B k && !unS D B k
theorem lB_p {P : Nat → Bool} : ∀ n, (lB P n = none → ∀ l, l < n → P l = false) ∧ ∀ b, lB P n = some b → b < n ∧ P b = true
  | 0 => ⟨fun _ _ h => absurd h (by omega), fun _ h => by cases h⟩
  | n + 1 => by
    obtain ⟨h1, h2⟩ := lB_p (P := P) n
    have hs : lB P (n + 1) = if P n then some n else lB P n := rfl
    rw [hs]
    cases c : P n with
    | true =>
      rw [if_pos rfl]
      refine ⟨fun e => (by cases e), fun b e => ?_⟩
      cases e
      exact ⟨by omega, c⟩
    | false =>
      rw [if_neg (by decide)]
      refine ⟨fun e l hl => ?_, fun b e => ?_⟩
      · by_cases q : l = n
        · rw [q]; exact c
        · exact h1 e l (by omega)
      · have := h2 b e
        exact ⟨by omega, this.2⟩
theorem one_eq {P : Nat → Bool} (hm : ∀ k, k ∈ od ↔ k < D.2.1) (hs : od.Pairwise (ORD D)) (h1 : cB P D.2.1 = 1) : ∃ b, b < D.2.1 ∧ P b = true ∧ lsF P od = some b ∧ lB P D.2.1 = some b := by
  rw [← od_cB hm hs] at h1
  obtain ⟨b, hb⟩ := List.length_eq_one_iff.mp h1
  have hmem : b ∈ od.filter P := by rw [hb]; simp
  obtain ⟨m1, m2⟩ := List.mem_filter.mp hmem
  refine ⟨b, (hm b).mp m1, m2, by unfold lsF; rw [hb]; rfl, ?_⟩
  obtain ⟨g1, g2⟩ := lB_p (P := P) D.2.1
  cases c : lB P D.2.1 with
  | none =>
    rw [g1 c b ((hm b).mp m1)] at m2
    cases m2
  | some x =>
    obtain ⟨x1, x2⟩ := g2 x c
    have : x ∈ od.filter P := List.mem_filter.mpr ⟨(hm x).mpr x1, x2⟩
    rw [hb] at this
    rw [List.mem_singleton.mp this]
theorem P_bind_109_e (L : Lk fa ta ia sa ca od p D) (W : WText D nc) (Wi : WItems D nc) (hb : ∀ a, a < D.2.1 → mI p 1295 (ta a) = tI (wB D inf vs tk a)) {x1 : Int32} : ∀ (e i fu : Nat), i + e = D.2.1 → e < fu → P_Reckoning_bind_109 fu x1 ((lsF (uB D (aB D inf vs tk)) (od.take i)).map ta) (nj ((od.take i).filter (uB D (aB D inf vs tk))).length) (nj i) p = P_Reckoning_bind_170 x1 ((lsF (uB D (aB D inf vs tk)) od).map ta) (nj (cB (uB D (aB D inf vs tk)) D.2.1)) p
  | 0, i, fu + 1, hi, _ => by
    have h24 := W.1
    rw [P_Reckoning_bind_109.eq_2, L.2.1.1, if_pos (by rw [nj_le (by omega) (by omega)]; omega), List.take_of_length_le (by rw [L.2.2.1.1]; omega), od_cB L.2.2.1.2.2.1 L.2.2.1.2.2.2]
  | e + 1, i, fu + 1, hi, hf => by
    have h24 := W.1
    have ih := P_bind_109_e L W Wi hb (x1 := x1) e (i + 1) fu (by omega) (by omega)
    obtain ⟨l, l1, l2, l3⟩ := od_get L (i := i) (by omega)
    obtain ⟨-, t2, t3, -⟩ := L.2.1.2.1 l l2
    have htake : od.take (i + 1) = od.take i ++ [l] := by
      rw [List.take_add_one, l1]
      rfl
    rw [htake, lsF_snoc, List.filter_append, List.length_append] at ih
    rw [P_Reckoning_bind_109.eq_2, L.2.1.1, if_neg (by rw [nj_le (by omega) (by omega)]; omega), inb_nj (by omega), gd_t (decide_eq_true (by omega)), ix_nj (by omega), l3, gs_s, gt_t t2, t3, hb l l2, P_isOutdone_e L W Wi hb l2, bn_s]
    unfold P_Reckoning_bind_164
    simp only [vb_e, nj_add_l]
    by_cases c0 : D.1 8 l = 0
    · have hwb : wB D inf vs tk l = aB D inf vs tk l := by
        unfold wB aB isW
        rw [decide_eq_true (Or.inl c0), decide_eq_true c0]
      rw [if_pos c0, hwb]
      cases c1 : aB D inf vs tk l with
      | false =>
        have hu : uB D (aB D inf vs tk) l = false := by unfold uB; rw [c1, Bool.false_and]
        rw [if_pos (by rfl)]
        simpa [hu] using ih
      | true =>
        rw [if_neg (by decide)]
        cases c2 : unS D (aB D inf vs tk) l with
        | true =>
          have hu : uB D (aB D inf vs tk) l = false := by unfold uB; rw [c1, c2]; rfl
          rw [if_neg (by decide)]
          simpa [hu] using ih
        | false =>
          have hu : uB D (aB D inf vs tk) l = true := by unfold uB; rw [c1, c2]; rfl
          rw [if_pos (by rfl)]
          simpa [hu] using ih
    · have hu : uB D (aB D inf vs tk) l = false := by unfold uB aB; rw [decide_eq_false c0]; rfl
      rw [if_neg c0]
      simpa [hu] using ih
end Bq
