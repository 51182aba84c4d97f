/-! Layer C: the data with one TEXT more: what stood before -/
section Ag
variable {D D' : Dt} {l c x fc nc nc' : Nat}
def LBd (D : Dt) (l c : Nat) : Prop := c < 20000 ∧ ((D.1 27 l = 4 ∧ ∃ a, a < c ∧ D.1 30 l = nj a) ∨ (D.1 27 l ≠ 4 ∧ ∃ a b e, D.1 30 l = nj a ∧ D.1 31 l = nj b ∧ D.1 32 l = nj e ∧ a ≤ b ∧ b ≤ e ∧ e ≤ c))
theorem segS_ag {a b : Nat} (h3 : ∀ j, j < c → D'.1 33 j = D.1 33 j ∧ D'.1 34 j = D.1 34 j) (hb : b ≤ c) : segS D' a b = segS D a b := by
  unfold segS
  refine List.map_congr_left fun j hj => ?_
  obtain ⟨h1, h2⟩ := List.mem_range'_1.mp hj
  obtain ⟨e1, e2⟩ := h3 j (by omega)
  rw [e1, e2]
theorem wfC_ag (h3 : ∀ j, j < c → D'.1 33 j = D.1 33 j ∧ D'.1 34 j = D.1 34 j) : ∀ (n a d : Nat), a + n ≤ c → wfC D a n d → wfC D' a n d
  | 0, a, d, _, h => h
  | n + 1, a, d, hj, h => by
    obtain ⟨h1, h2⟩ := h
    refine ⟨h1, ?_⟩
    obtain ⟨e1, e2⟩ := h3 a (by omega)
    rw [e1, e2]
    rcases h2 with ⟨p1, p2, p3⟩ | ⟨p1, p2, p3⟩ | ⟨p1, p2, p3⟩
    · exact Or.inl ⟨p1, p2, wfC_ag h3 n (a + 1) (d + 1) (by omega) p3⟩
    · exact Or.inr (Or.inl ⟨p1, p2, wfC_ag h3 n (a + 1) (d + 1) (by omega) p3⟩)
    · exact Or.inr (Or.inr ⟨p1, p2, wfC_ag h3 n (a + 1) (d - 1) (by omega) p3⟩)
theorem lit_ag {nt : Nat → Nat} (hx : D.2.1 < 1000) (hx' : D.2.1 ≤ D'.2.1) (hb : LBd D l c) (h2 : ∀ y, 27 ≤ y → y ≤ 32 → D'.1 y l = D.1 y l) (h3 : ∀ j, j < c → D'.1 33 j = D.1 33 j ∧ D'.1 34 j = D.1 34 j) : litS D' nt l = litS D nt l ∧ (WLit D l → WLit D' l) := by
  obtain ⟨hc, hb⟩ := hb
  have e27 := h2 27 (by omega) (by omega)
  have e28 := h2 28 (by omega) (by omega)
  have e29 := h2 29 (by omega) (by omega)
  have e30 := h2 30 (by omega) (by omega)
  have e31 := h2 31 (by omega) (by omega)
  have e32 := h2 32 (by omega) (by omega)
  rcases hb with ⟨b1, a, b2, b3⟩ | ⟨b1, a, b, e, b2, b3, b4, b5, b6, b7⟩
  · have e34 := (h3 a b2).2
    constructor
    · unfold litS
      rw [e27, e30, b1, if_pos rfl, if_pos rfl, b3, ix_nj (by omega), e34]
    · rintro ⟨w1, w2, w3⟩
      unfold WLit
      rw [e27, e28, e29, e30]
      refine ⟨w1, w2, Or.inl ?_⟩
      rcases w3 with ⟨w4, c', v, w5, w6, w7, w8⟩ | ⟨s, a', b', e', w4, w5, -⟩
      · rw [b3, nj_inj (by omega) (by omega)] at w7
        subst w7
        exact ⟨w4, a, v, by omega, w6, b3, by rw [e34]; exact w8⟩
      · rw [b1] at w5
        have w6 : nj 4 = nj s := w5
        rw [nj_inj (by omega) (by omega)] at w6
        omega
  · constructor
    · unfold litS
      rw [e27, e30, e31, e32, if_neg b1, if_neg b1, b2, b3, b4, ix_nj (by omega), ix_nj (by omega), ix_nj (by omega), segS_ag h3 (by omega), segS_ag h3 (by omega)]
    · rintro ⟨w1, w2, w3⟩
      unfold WLit
      rw [e27, e28, e29, e30, e31, e32]
      refine ⟨w1, w2, Or.inr ?_⟩
      rcases w3 with ⟨w4, -⟩ | ⟨s, a', b', e', w4, w5, w6, w7, w8, w9, w10, w11, w12, w13⟩
      · exact absurd w4 b1
      · rw [b2, nj_inj (by omega) (by omega)] at w9
        rw [b3, nj_inj (by omega) (by omega)] at w10
        rw [b4, nj_inj (by omega) (by omega)] at w11
        subst w9 w10 w11
        exact ⟨s, a, b, e, w4, w5, w6, w7, by omega, b2, b3, b4, wfC_ag h3 (b - a) a 0 (by omega) w12, wfC_ag h3 (e - b) b 0 (by omega) w13⟩
theorem WLit.lbd (h : WLit D l) (hx : D.2.1 ≤ 24) : LBd D l (500 * D.2.1) := by
  obtain ⟨-, -, h⟩ := h
  refine ⟨by omega, ?_⟩
  rcases h with ⟨w4, c', v, w5, w6, w7, w8⟩ | ⟨s, a, b, e, w4, w5, w6, w7, w8, w9, w10, w11, -⟩
  · exact Or.inl ⟨w4, c', w5, w7⟩
  · refine Or.inr ⟨fun q => ?_, a, b, e, w9, w10, w11, w6, w7, w8⟩
    rw [q] at w5
    have w6' : nj 4 = nj s := w5
    rw [nj_inj (by omega) (by omega)] at w6'
    omega
/-- D' has one TEXT and one FACT more than D -/
def Nx (D D' : Dt) (x fc : Nat) : Prop := D.2.1 = x ∧ D'.2.1 = x + 1 ∧ D.2.2 = fc ∧ D'.2.2 = fc + 1 ∧ (∀ a j, a < 44 → msk x a j = true → D'.1 a j = D.1 a j) ∧ (∀ a j, 44 ≤ a → a ≤ 49 → (a = 49 ∨ j ≠ fc) → D'.1 a j = D.1 a j) ∧ x ≤ 23 ∧ fc < 160
theorem msk_t {tc a j : Nat} (ha : 8 ≤ a) (h2 : a ≤ 14) (hj : j < tc) : msk tc a j = true := by unfold msk; rw [if_neg (by omega), if_pos h2]; exact decide_eq_true hj
theorem msk_i {tc a j : Nat} (ha : 15 ≤ a) (h2 : a ≤ 25) (hj : j < 30 * tc) : msk tc a j = true := by unfold msk; rw [if_neg (by omega), if_neg (by omega), if_pos h2]; exact decide_eq_true hj
theorem msk_b {tc j : Nat} (hj : j < 120 * tc) : msk tc 26 j = true := by unfold msk; rw [if_neg (by omega), if_neg (by omega), if_neg (by omega), if_pos rfl]; exact decide_eq_true hj
theorem msk_l {tc a j : Nat} (ha : 27 ≤ a) (h2 : a ≤ 32) (hj : j < 200 * tc) : msk tc a j = true := by unfold msk; rw [if_neg (by omega), if_neg (by omega), if_neg (by omega), if_neg (by omega), if_pos h2]; exact decide_eq_true hj
theorem msk_c {tc a j : Nat} (ha : 33 ≤ a) (h2 : a ≤ 34) (hj : j < 500 * tc) : msk tc a j = true := by unfold msk; rw [if_neg (by omega), if_neg (by omega), if_neg (by omega), if_neg (by omega), if_neg (by omega), if_pos h2]; exact decide_eq_true hj
theorem Nx.to (h : Nx D D' x fc) {a k : Nat} (ha : 8 ≤ a) (h2 : a ≤ 14) (hk : k < x) : D'.1 a k = D.1 a k := h.2.2.2.2.1 a k (by omega) (msk_t ha h2 hk)
theorem Nx.io (h : Nx D D' x fc) {a i : Nat} (ha : 15 ≤ a) (h2 : a ≤ 25) (hi : i < 30 * x) : D'.1 a i = D.1 a i := h.2.2.2.2.1 a i (by omega) (msk_i ha h2 hi)
theorem Nx.bo (h : Nx D D' x fc) {j : Nat} (hj : j < 120 * x) : D'.1 26 j = D.1 26 j := h.2.2.2.2.1 26 j (by omega) (msk_b hj)
theorem Nx.lo (h : Nx D D' x fc) {a j : Nat} (ha : 27 ≤ a) (h2 : a ≤ 32) (hj : j < 200 * x) : D'.1 a j = D.1 a j := h.2.2.2.2.1 a j (by omega) (msk_l ha h2 hj)
theorem Nx.co (h : Nx D D' x fc) : ∀ j, j < 500 * x → D'.1 33 j = D.1 33 j ∧ D'.1 34 j = D.1 34 j := fun j hj => ⟨h.2.2.2.2.1 33 j (by omega) (msk_c (by omega) (by omega) hj), h.2.2.2.2.1 34 j (by omega) (msk_c (by omega) (by omega) hj)⟩
theorem Nx.fo (h : Nx D D' x fc) {a j : Nat} (ha : 44 ≤ a) (h2 : a ≤ 48) (hj : j < fc) : D'.1 a j = D.1 a j := h.2.2.2.2.2.1 a j ha (by omega) (Or.inr (by omega))
theorem Nx.claim (h : Nx D D' x fc) {s aw nm : Int32} : ∀ n, n ≤ fc → claimS D' s aw nm n = claimS D s aw nm n
  | 0, _ => rfl
  | n + 1, hn => by
    unfold claimS
    rw [h.fo (by omega) (by omega) (show n < fc by omega), h.fo (by omega) (by omega) (show n < fc by omega), h.fo (by omega) (by omega) (show n < fc by omega), h.fo (by omega) (by omega) (show n < fc by omega), Nx.claim h n (by omega)]
theorem WItem.old {k i : Nat} (h : Nx D D' x fc) (W : WItem D nc k i) (hk : k < x) (hi : i < 30 * x) (hn : nc ≤ nc') : WItem D' nc' k i := by
  obtain ⟨s, g1, g2, g3, g4, g5, g6, g7, g8, g9, g10, ⟨a, e, q1, q2, q3, q4, q5, q6, q7⟩, g12⟩ := W
  have hx := h.1
  have hx' := h.2.1
  have hx23 := h.2.2.2.2.2.2.1
  have eI : ∀ a, 15 ≤ a → a ≤ 25 → D'.1 a i = D.1 a i := fun a ha h2 => h.io ha h2 hi
  refine ⟨s, g1, by rw [eI 15 (by omega) (by omega)]; exact g2, by rw [h.to (by omega) (by omega) hk]; exact g3, by rw [h.to (by omega) (by omega) hk]; exact g4, fun z => ?_, by rw [eI 16 (by omega) (by omega)]; exact g6, fun z => ?_, by rw [eI 17 (by omega) (by omega)]; exact g8, by rw [eI 17 (by omega) (by omega)]; exact g9, fun z => ?_, ⟨a, e, q1, by omega, by rw [eI 23 (by omega) (by omega)]; exact q3, by rw [eI 24 (by omega) (by omega)]; exact q4, q5, fun z => ?_, fun l l1 l2 => ?_⟩, fun z => ?_⟩
  · obtain ⟨u, u1, u2⟩ := g5 z
    exact ⟨u, by omega, by rw [eI 16 (by omega) (by omega)]; exact u2⟩
  · rw [eI 17 (by omega) (by omega), eI 18 (by omega) (by omega), eI 19 (by omega) (by omega), eI 20 (by omega) (by omega)]
    obtain ⟨u1, u2, u3⟩ := g7 z
    refine ⟨u1, fun w => ?_, u3⟩
    obtain ⟨u, w', v1, v2, v3⟩ := u2 w
    exact ⟨u, w', by omega, by omega, v3⟩
  · obtain ⟨u, w, v1, v2, v3, v4, v5⟩ := g10 z
    exact ⟨u, w, v1, by omega, by rw [eI 21 (by omega) (by omega)]; exact v3, by rw [eI 22 (by omega) (by omega)]; exact v4, wfC_ag (c := 500 * x) h.co (w - u) u 0 (by omega) v5⟩
  · rw [h.lo (by omega) (by omega) (by omega)]; exact q6 z
  · exact (lit_ag (nt := fun _ => 0) (c := 500 * x) (by omega) (by omega) (by have := (q7 l l1 l2).lbd (by omega); rw [hx] at this; exact this) (fun y y1 y2 => h.lo y1 y2 (by omega)) h.co).2 (q7 l l1 l2)
  · obtain ⟨n, n1, n2, n3⟩ := g12 z
    refine ⟨n, n1, by rw [eI 25 (by omega) (by omega)]; exact n2, fun b hb => ?_⟩
    obtain ⟨u, u1, u2⟩ := n3 b hb
    exact ⟨u, by omega, by rw [h.bo (by omega)]; exact u2⟩
theorem ItemAt.old {p : Mem} {k i a s q : Nat} (h : Nx D D' x fc) (I : ItemAt p D k i a s q) (W : WItem D nc k i) (WT : WText D nc) (hk : k < x) (hi : i < 30 * x) : ItemAt p D' k i a s q := by
  obtain ⟨s', g1', g2', -, -, -, -, -, -, -, G10, ⟨la, le, q1, q2, q3, q4, q5, q6, q7⟩, G12⟩ := W
  obtain ⟨g1, g2, g3, g4, g5, g6, g7, g8, g9, g10, g11, g12, g13, g14, g15, g16, g17, g18, g19⟩ := I
  have hx := h.1
  have hx' := h.2.1
  have hfc := h.2.2.1
  have hx23 := h.2.2.2.2.2.2.1
  have eI : ∀ a, 15 ≤ a → a ≤ 25 → D'.1 a i = D.1 a i := fun a ha h2 => h.io ha h2 hi
  have e12 : D'.1 12 k = D.1 12 k := h.to (by omega) (by omega) hk
  have e13 : D'.1 13 k = D.1 13 k := h.to (by omega) (by omega) hk
  obtain ⟨-, ⟨f, f1, f2, -⟩, -, -, -, -, ⟨aw, w1, w2, -⟩, -⟩ := WT.2.2.1 k (by omega)
  have eaw : D'.1 12 (ix (D.1 13 k)) = D.1 12 (ix (D.1 13 k)) := by rw [w2, ix_nj (by omega)]; exact h.to (by omega) (by omega) (by omega)
  have hfk : ix (D.1 12 k) ≤ fc := by rw [f2, ix_nj (by have := h.2.2.2.2.2.2.2; omega)]; omega
  have el : logS D' k i = logS D k i := by
    unfold logS
    rw [e13, e12, eaw, eI 16 (by omega) (by omega), h.claim _ hfk]
  have ea : ansS D' k i = ansS D k i := by
    unfold ansS
    rw [e13, e12, eaw, eI 16 (by omega) (by omega), h.claim _ hfk]
  have e15 : ∀ n : Nat, n < 100 → (D.1 15 i = nj n) = (s' = n) := fun n hn => by rw [g2', nj_inj (by omega) (by omega)]
  unfold ItemAt
  rw [el, ea, e12, eI 15 (by omega) (by omega), eI 16 (by omega) (by omega), eI 17 (by omega) (by omega), eI 18 (by omega) (by omega), eI 19 (by omega) (by omega), eI 20 (by omega) (by omega), eI 21 (by omega) (by omega), eI 22 (by omega) (by omega), eI 23 (by omega) (by omega), eI 24 (by omega) (by omega), eI 25 (by omega) (by omega)]
  refine ⟨g1, g2, g3, g4, g5, g6, g7, g8, g9, g10, g11, g12, g13, fun z => ?_, fun z => ?_, fun z u hu => ?_, g17, g18, g19⟩
  · have z' : s' = 2 ∨ s' = 4 ∨ s' = 5 ∨ s' = 8 := by
      rcases z with z | z | z | z
      · exact Or.inl ((e15 2 (by omega)).mp z)
      · exact Or.inr (Or.inl ((e15 4 (by omega)).mp z))
      · exact Or.inr (Or.inr (Or.inl ((e15 5 (by omega)).mp z)))
      · exact Or.inr (Or.inr (Or.inr ((e15 8 (by omega)).mp z)))
    obtain ⟨u, w, v1, v2, v3, v4, v5⟩ := G10 z'
    rw [v3, v4, ix_nj (by omega), ix_nj (by omega), segS_ag (c := 500 * x) h.co (by omega)]
    have := g14 z
    rw [v3, v4, ix_nj (by omega), ix_nj (by omega)] at this
    exact this
  · obtain ⟨nt, h1, h2⟩ := g15 z
    rw [q3, q4, ix_nj (by omega), ix_nj (by omega)] at h1 h2 ⊢
    refine ⟨nt, fun l l1 l2 => by rw [h.lo (by omega) (by omega) (by omega)]; exact h1 l l1 l2, ?_⟩
    rw [conS_cg false false (List.range' la (le - la)) (fun l hl => by
      obtain ⟨l1, l2⟩ := List.mem_range'_1.mp hl
      have hL := q7 l l1 (by omega)
      exact ⟨(lit_ag (nt := nt) (c := 500 * x) (by omega) (by omega) (by have := hL.lbd (by omega); rw [hx] at this; exact this) (fun y y1 y2 => h.lo y1 y2 (by omega)) h.co).1, h.lo (by omega) (by omega) (by omega)⟩)]
    exact h2
  · have z' : s' = 4 ∨ s' = 5 := by
      rcases z with z | z
      · exact Or.inl ((e15 4 (by omega)).mp z)
      · exact Or.inr ((e15 5 (by omega)).mp z)
    obtain ⟨n, n1, n2, n3⟩ := G12 z'
    rw [g16 z u hu, n2, ix_nj (by omega)]
    constructor
    · rintro ⟨b, b1, b2⟩
      exact ⟨b, b1, by rw [h.bo (by omega)]; exact b2⟩
    · rintro ⟨b, b1, b2⟩
      exact ⟨b, b1, by rw [← h.bo (by omega)]; exact b2⟩
end Ag
