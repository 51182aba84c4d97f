/-! Layer C: an ITEM of the new TEXT -/
/-- D' has the reference's arrays up to TEXT x -/
def Rw (r : Mem) (D' : Dt) (x : Nat) : Prop := D'.2.1 = x + 1 ∧ x ≤ 23 ∧ ∀ a j, a < 44 → a ≠ 12 → a ≠ 13 → msk (x + 1) a j = true → D'.1 a j = aI r a j
section Nw
variable {p r : Mem} {D' : Dt} {x i a nm lo hi cc s sA cA s0 : Nat}
theorem item_new (hG : Got p r x i a nm lo hi cc s sA cA) (h0 : mI r 1551 0 = 0) (hn : nm ≤ 60) (h24 : aI r 24 i = nj hi) (hl : hi ≤ 200 * (x + 1)) (hc : cc ≤ 500 * (x + 1)) (hi1 : 30 * x ≤ i) (hi2 : i < 30 * x + 30) (hs0 : s0 < 4) (h8 : D'.1 8 x = nj s0) (hpl : (s0 = 0 ∨ s0 = 3 → s ≤ 6) ∧ (s0 = 1 ∨ s0 = 2 → 2 ≤ s)) (hD : Rw r D' x) (h257 : mI p 257 a = D'.1 12 x)
    (hamb : s = 8 → (logS D' x i ≠ -1 ∧ ansS D' x i ≠ -1 → mI p 266 a = jmin (logS D' x i) (ansS D' x i) ∧ mI p 267 a = jmax (logS D' x i) (ansS D' x i)) ∧ (logS D' x i = -1 ∨ ansS D' x i = -1 → mI p 266 a = 1 ∧ mI p 267 a = 0)) :
    ItemAt p D' x i a sA cA ∧ WItem D' nm x i := by
  obtain ⟨⟨a1, a2, a3, a4, a5, a6, a7, a8, a9, a10, a11, a12, a13, a14⟩, b1, b2, b3, b4, b5, b6, b7, b8, b9, b10, b11⟩ := hG
  obtain ⟨hD1, hx23, hD⟩ := hD
  have eI : ∀ y, 15 ≤ y → y ≤ 25 → D'.1 y i = aI r y i := fun y y1 y2 => hD y i (by omega) (by omega) (by omega) (msk_i y1 y2 (by omega))
  have e26 : ∀ b, b < 4 → D'.1 26 (4 * i + b) = aI r 26 (4 * i + b) := fun b hb => hD 26 _ (by omega) (by omega) (by omega) (msk_b (by omega))
  have eL : ∀ j, j < 200 * (x + 1) → ∀ y, 27 ≤ y → y ≤ 32 → D'.1 y j = (rwD r x).1 y j := fun j hj y y1 y2 => hD y j (by omega) (by omega) (by omega) (msk_l y1 y2 hj)
  have eC : ∀ j, j < 500 * (x + 1) → D'.1 33 j = (rwD r x).1 33 j ∧ D'.1 34 j = (rwD r x).1 34 j := fun j hj => ⟨hD 33 j (by omega) (by omega) (by omega) (msk_c (by omega) (by omega) hj), hD 34 j (by omega) (by omega) (by omega) (msk_c (by omega) (by omega) hj)⟩
  have e15 : D'.1 15 i = nj s := by rw [eI 15 (by omega) (by omega)]; exact a2
  have e15' : ∀ n : Nat, n < 100 → (D'.1 15 i = nj n) = (s = n) := fun n hn => by rw [e15, nj_inj (by omega) (by omega)]
  have e23 : D'.1 23 i = nj lo := by rw [eI 23 (by omega) (by omega)]; exact a12
  have e24 : D'.1 24 i = nj hi := by rw [eI 24 (by omega) (by omega)]; exact h24
  have k2 : (D'.1 15 i = 2) = (s = 2) := e15' 2 (by omega)
  have k0 : (D'.1 15 i = 0) = (s = 0) := e15' 0 (by omega)
  have k3 : (D'.1 15 i = 3) = (s = 3) := e15' 3 (by omega)
  have k4 : (D'.1 15 i = 4) = (s = 4) := e15' 4 (by omega)
  have k5 : (D'.1 15 i = 5) = (s = 5) := e15' 5 (by omega)
  have k6 : (D'.1 15 i = 6) = (s = 6) := e15' 6 (by omega)
  have k8 : (D'.1 15 i = 8) = (s = 8) := e15' 8 (by omega)
  have hlit : ∀ (nt : Nat → Nat) k, lo ≤ k → k < hi → litS D' nt k = litS (rwD r x) nt k ∧ (WLit (rwD r x) k → WLit D' k) := fun nt k q1 q2 => lit_ag (D := rwD r x) (c := cc) (show x + 1 < 1000 by omega) (by rw [hD1]; exact Nat.le_refl _) (b7.2.1 k q1 q2) (fun y y1 y2 => eL k (by omega) y y1 y2) (fun j hj => eC j (by omega))
  constructor
  · unfold ItemAt
    rw [k0, k2, k3, k4, k5, k6, k8, e23, e24, ix_nj (by omega), ix_nj (by omega)]
    refine ⟨a3, a4, by rw [e15, nj_add_l]; exact a5, h257, ?_, fun z => ?_, fun z => ?_, a6, a7, a8, a9, a10, a11, fun z => ?_, fun z => ?_, fun z u hu => ?_, fun z => ?_, fun z => ?_, hamb⟩
    · rw [eI 16 (by omega) (by omega)]
      by_cases q : s = 0 ∨ s = 3 ∨ s = 6
      · rw [(b2 q).1, (b2 q).2]
      · obtain ⟨u, u1, u2, u3, u4⟩ := b1 (by omega)
        rw [u3, u4, if_pos (by omega)]
    · rw [eI 17 (by omega) (by omega), eI 18 (by omega) (by omega), eI 19 (by omega) (by omega), eI 20 (by omega) (by omega)]
      refine ⟨((b3 z).1 h0).1, ?_⟩
      rcases (b3 z).2 with ⟨w1, w2, w3⟩ | ⟨w1, u, w, v1, v2, v3, v4, v5, v6, v7, v8⟩
      · rw [w1, w2, w3, if_neg (by decide)]; exact ⟨rfl, rfl⟩
      · rw [w1, if_pos rfl, if_pos rfl, v5, v6, v7, v8, if_pos (by omega), if_pos (by omega)]; exact ⟨rfl, rfl⟩
    · exact b4 (fun w => z (k2.mpr w))
    · obtain ⟨c0, L, u1, u2, u3, u4, u5, u6⟩ := b5 z
      rw [eI 21 (by omega) (by omega), eI 22 (by omega) (by omega), u1, u2, ix_nj (by omega), ix_nj (by omega), segS_ag (D := rwD r x) (c := 500 * (x + 1)) eC (by omega), segS_e u4]
      exact u6
    · obtain ⟨nt, u1, u2⟩ := b8 z
      refine ⟨nt, fun k q1 q2 => by rw [eL k (by omega) 28 (by omega) (by omega)]; exact u1 k q1 q2, ?_⟩
      rw [conS_cg (D := rwD r x) false false (List.range' lo (hi - lo)) (fun k hk => by
        obtain ⟨w1, w2⟩ := List.mem_range'_1.mp hk
        exact ⟨(hlit nt k w1 (by omega)).1, eL k (by omega) 29 (by omega) (by omega)⟩)]
      exact u2
    · obtain ⟨k, u1, u2, u3, u4⟩ := b9 z
      rw [u4 hn u hu, eI 25 (by omega) (by omega), u2, ix_nj (by omega)]
      constructor
      · rintro ⟨b, v1, v2⟩
        exact ⟨b, v1, by rw [e26 b (by omega)]; exact v2⟩
      · rintro ⟨b, v1, v2⟩
        exact ⟨b, v1, by rw [← e26 b (by omega)]; exact v2⟩
    · obtain ⟨k, u1, u2, u3⟩ := b10 z
      rw [eI 17 (by omega) (by omega), u2, u3, nj_add_l]
    · obtain ⟨v, u1, u2, u3, u4⟩ := b11 z
      rw [eI 17 (by omega) (by omega), u2, u3]
  · have p0 : (D'.1 8 x = 0) = (s0 = 0) := by rw [h8]; exact nj_eq_l (by omega) (by omega)
    have p1 : (D'.1 8 x = 1) = (s0 = 1) := by rw [h8]; exact nj_eq_l (by omega) (by omega)
    have p2 : (D'.1 8 x = 2) = (s0 = 2) := by rw [h8]; exact nj_eq_l (by omega) (by omega)
    have p3 : (D'.1 8 x = 3) = (s0 = 3) := by rw [h8]; exact nj_eq_l (by omega) (by omega)
    refine ⟨s, a1, e15, by rw [p0, p3]; exact hpl.1, by rw [p1, p2]; exact hpl.2, fun z => ?_, fun z => by rw [eI 16 (by omega) (by omega)]; exact (b2 z).1, fun z => ?_, fun z => ?_, fun z => ?_, fun z => ?_, ⟨lo, hi, a13, by rw [hD1]; exact hl, e23, e24, b6, fun z => by rw [eL lo (by omega) 29 (by omega) (by omega)]; exact b7.1 z, fun k q1 q2 => (hlit (fun _ => 0) k q1 q2).2 (b7.2.2 h0 k q1 q2)⟩, fun z => ?_⟩
    · obtain ⟨u, u1, u2, u3, u4⟩ := b1 z
      exact ⟨u, u1, by rw [eI 16 (by omega) (by omega)]; exact u3⟩
    · rw [eI 17 (by omega) (by omega), eI 18 (by omega) (by omega), eI 19 (by omega) (by omega), eI 20 (by omega) (by omega)]
      rcases (b3 z).2 with ⟨w1, -⟩ | ⟨w1, u, w, v1, v2, v3, v4, v5, v6, -⟩
      · exact ⟨Or.inl w1, fun q => absurd (w1.symm.trans q) (by decide), ((b3 z).1 h0).2⟩
      · exact ⟨Or.inr w1, fun _ => ⟨u, w, v1, v2, v5, v6⟩, ((b3 z).1 h0).2⟩
    · obtain ⟨k, u1, u2, u3⟩ := b10 z
      exact ⟨k, u1, by rw [eI 17 (by omega) (by omega)]; exact u2⟩
    · obtain ⟨v, u1, u2, u3, u4⟩ := b11 z
      exact ⟨v, (u4 h0).1, (u4 h0).2, by rw [eI 17 (by omega) (by omega)]; exact u2⟩
    · obtain ⟨c0, L, u1, u2, u3, u4, u5, u6⟩ := b5 z
      refine ⟨c0, c0 + L.length, by omega, by rw [hD1]; omega, by rw [eI 21 (by omega) (by omega)]; exact u1, by rw [eI 22 (by omega) (by omega)]; exact u2, ?_⟩
      rw [show c0 + L.length - c0 = L.length by omega]
      exact wfC_ag (D := rwD r x) (c := 500 * (x + 1)) eC L.length c0 0 (by omega) (wfC_e L c0 0 u4 u5)
    · obtain ⟨k, u1, u2, u3, u4⟩ := b9 z
      refine ⟨k, u1, by rw [eI 25 (by omega) (by omega)]; exact u2, fun b hb => ?_⟩
      obtain ⟨v, v1, v2, v3⟩ := u3 b hb
      exact ⟨v, v1, by rw [e26 b (by omega)]; exact v3⟩
end Nw
