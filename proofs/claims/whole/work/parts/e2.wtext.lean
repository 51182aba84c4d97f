/-! Layer C: a good TEXT: what holds of the data -/
def Nt (D D' : Dt) (x fc k s0 v aw nm : Nat) : Prop := Nx D D' x fc ∧ s0 < 4 ∧ D'.1 8 x = nj s0 ∧ D'.1 9 x = nj v ∧ v < nm ∧ nm ≤ 60 ∧ (s0 < 2 → D'.1 10 x = -1) ∧ (2 ≤ s0 → ∃ g, g < 8 ∧ D'.1 10 x = nj g) ∧ (∃ d, d ≤ 139 ∧ D'.1 11 x = nj d) ∧ D'.1 12 x = nj fc ∧ D'.1 13 x = nj aw ∧ aw ≤ x ∧ D'.1 8 aw = 0 ∧ D'.1 9 aw = nj v ∧ (s0 = 0 → aw = x) ∧ (s0 ≠ 0 → aw < x) ∧ D'.1 14 x = nj k ∧ k ≤ 30 ∧ D'.1 44 fc = nj s0 ∧ D'.1 45 fc = nj x ∧ (s0 = 0 → ∀ q, q < x → D.1 8 q = 0 → D.1 9 q ≠ nj v)
section Wt
variable {D D' : Dt} {x fc k s0 v aw nc nm : Nat}
theorem Nt.wtext (h : Nt D D' x fc k s0 v aw nm) (W : WText D nc) (hn : nc ≤ nm) : WText D' nm := by
  obtain ⟨N, n1, n2, n3, n4, n5, n6, n7, n8, n9, n10, n11, n12, n13, n14, n15, n16, n17, n18, n19, n20⟩ := h
  have hx := N.1
  have hx' := N.2.1
  have hf := N.2.2.1
  have hf' := N.2.2.2.1
  have hx23 := N.2.2.2.2.2.2.1
  have hf160 := N.2.2.2.2.2.2.2
  obtain ⟨w1, w2, w3, w4, w5⟩ := W
  have e0 : (nj s0 = 0) = (s0 = 0) := nj_eq_l (by omega) (by omega)
  have e2 : (nj s0 < 2) = (s0 < 2) := nj_lt_l (by omega) (by omega)
  have e2' : ((2 : Int32) ≤ nj s0) = (2 ≤ s0) := nj_l_le (by omega) (by omega)
  refine ⟨by omega, by omega, fun q hq => ?_, fun q l h1 h2 => ?_, fun q l h1 h2 h3 h4 h5 => ?_⟩
  · by_cases z : q = x
    · subst z
      rw [n2, e0, e2, e2']
      exact ⟨⟨s0, n1, rfl⟩, ⟨fc, by omega, n9, n18, n19⟩, n8, ⟨v, n4, n3⟩, n6, n7, ⟨aw, n11, n10, n12, by rw [n13, n3], fun w => n14 w, fun w => n15 (fun q => w (e0.mpr q))⟩, ⟨k, n17, n16⟩⟩
    · have hq' : q < x := by omega
      obtain ⟨y1, ⟨f, y2, y3, y4, y5⟩, y6, ⟨u, u1, u2⟩, y8, y9, ⟨j, z1, z2, z3, z4, z5, z6⟩, y11⟩ := w3 q (by omega)
      have eT : ∀ a, 8 ≤ a → a ≤ 14 → D'.1 a q = D.1 a q := fun a h1 h2 => N.to h1 h2 hq'
      rw [eT 8 (by omega) (by omega), eT 9 (by omega) (by omega), eT 10 (by omega) (by omega), eT 11 (by omega) (by omega), eT 12 (by omega) (by omega), eT 13 (by omega) (by omega), eT 14 (by omega) (by omega)]
      exact ⟨y1, ⟨f, by omega, y3, by rw [N.fo (by omega) (by omega) (by omega)]; exact y4, by rw [N.fo (by omega) (by omega) (by omega)]; exact y5⟩, y6, ⟨u, by omega, u2⟩, y8, y9, ⟨j, z1, z2, by rw [N.to (by omega) (by omega) (by omega)]; exact z3, by rw [N.to (by omega) (by omega) (by omega)]; exact z4, z5, z6⟩, y11⟩
  · by_cases z : l = x
    · subst z
      obtain ⟨-, ⟨f, y2, y3, -⟩, -⟩ := w3 q (by omega)
      rw [N.to (by omega) (by omega) (by omega), y3, n9, nj_lt (by omega) (by omega)]
      omega
    · rw [N.to (by omega) (by omega) (by omega), N.to (by omega) (by omega) (by omega)]
      exact w4 q l h1 (by omega)
  · by_cases z1 : q = x
    · by_cases z2 : l = x
      · omega
      · rw [z1, n2, e0] at h3
        rw [N.to (by omega) (by omega) (by omega)] at h4
        rw [z1, n3, N.to (by omega) (by omega) (by omega)] at h5
        exact absurd h5.symm (n20 h3 l (by omega) h4)
    · by_cases z2 : l = x
      · rw [z2, n2, e0] at h4
        rw [N.to (by omega) (by omega) (by omega)] at h3
        rw [z2, n3, N.to (by omega) (by omega) (by omega)] at h5
        exact absurd h5 (n20 h4 q (by omega) h3)
      · rw [N.to (by omega) (by omega) (by omega)] at h3 h4
        rw [N.to (by omega) (by omega) (by omega), N.to (by omega) (by omega) (by omega)] at h5
        exact w5 q l (by omega) (by omega) h3 h4 h5
theorem Nt.wfact (h : Nt D D' x fc k s0 v aw nm) (W : WFact D nc) (hn : nc ≤ nm) : WFact D' nm := by
  obtain ⟨N, n1, n2, n3, n4, n5, n6, n7, n8, n9, n10, n11, n12, n13, n14, n15, n16, n17, n18, n19, n20⟩ := h
  have hx := N.1
  have hx' := N.2.1
  have hf := N.2.2.1
  have hf' := N.2.2.2.1
  intro i hi
  by_cases z : i = fc
  · subst z
    exact ⟨s0, by omega, n18, fun _ => ⟨x, by omega, n19, n9⟩, (fun w => by omega), (fun w => by omega), (fun w => by omega), (fun w => by omega), (fun w => by omega), (fun w => by omega)⟩
  · have hi' : i < fc := by omega
    obtain ⟨s, g1, g2, g3, g4, g5, g6, g7, g8, g9⟩ := W i (by omega)
    have eF : ∀ a, 44 ≤ a → a ≤ 48 → D'.1 a i = D.1 a i := fun a h1 h2 => N.fo h1 h2 hi'
    have e49 : ∀ j, D'.1 49 j = D.1 49 j := fun j => N.2.2.2.2.2.1 49 j (by omega) (by omega) (Or.inl rfl)
    unfold WF1
    rw [eF 44 (by omega) (by omega), eF 45 (by omega) (by omega), eF 46 (by omega) (by omega), eF 47 (by omega) (by omega), eF 48 (by omega) (by omega)]
    refine ⟨s, g1, g2, fun w => ?_, g4, g5, fun w => ?_, fun w => ?_, g8, fun w => ?_⟩
    · obtain ⟨q, q1, q2, q3⟩ := g3 w
      exact ⟨q, by omega, q2, by rw [N.to (by omega) (by omega) (by omega)]; exact q3⟩
    · obtain ⟨a, b, h1, h2, h3, h4, h5, h6⟩ := g6 w
      exact ⟨a, b, h1, h2, h3, h4, h5, fun h hh => by rw [e49]; exact h6 h hh⟩
    · obtain ⟨a, b, u, h1, h2, h3, h4, h5⟩ := g7 w
      exact ⟨a, b, u, h1, by omega, h3, by rw [N.fo (by omega) (by omega) (by omega)]; exact h4, h5⟩
    · obtain ⟨a, b, u, h1, h2, h3, h4, h5⟩ := g9 w
      exact ⟨a, b, u, h1, h2, h3, by rw [N.fo (by omega) (by omega) (by omega)]; exact h4, h5⟩
end Wt
