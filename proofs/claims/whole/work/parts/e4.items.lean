/-! Layer C: a good TEXT: its ITEMS; all links -/
theorem itemAt_mv {F A : List Nat} {p p' : Mem} {D : Dt} {k i a s q : Nat} (h : ItemAt p D k i a s q) (T : Top p) (c : Ch F A nil p p') (hF : ∀ f, 256 ≤ f → f ≤ 265 → f ∉ F) (hA : ∀ b, 51 ≤ b → b ∉ A) (e1 : mI p' 266 a = mI p 266 a) (e2 : mI p' 267 a = mI p 267 a) : ItemAt p' D k i a s q := by
  obtain ⟨g1, g2, g3, g4, g5, g6, g7, g8, g9, g10, g11, g12, g13, g14, g15, g16, g17, g18, g19⟩ := h
  have l1 : a < mC p := T.lt (by rw [g2]; decide)
  have l2 : s < mC p := T.lt (by rw [g12]; decide)
  have l3 : q < mC p := T.lt (by rw [g13]; decide)
  have eI : ∀ f, 256 ≤ f → f ≤ 265 → mI p' f a = mI p f a := fun f f1 f2 => c.i (hF f f1 f2) l1
  unfold ItemAt
  rw [c.t l1, c.t l2, c.t l3, c.l (hF 264 (by omega) (by omega)) l1, c.r (hF 262 (by omega) (by omega)) l1, c.r (hF 263 (by omega) (by omega)) l1, eI 256 (by omega) (by omega), eI 257 (by omega) (by omega), eI 258 (by omega) (by omega), eI 259 (by omega) (by omega), eI 260 (by omega) (by omega), eI 261 (by omega) (by omega), eI 265 (by omega) (by omega), e1, e2]
  refine ⟨g1, g2, g3, g4, g5, g6, g7, g8, g9, g10, g11, g12, g13, fun z => (g14 z).Ch T c (hA _ g10) (fun w => w), fun z => ?_, g16, g17, g18, g19⟩
  obtain ⟨nt, h1, h2⟩ := g15 z
  exact ⟨nt, h1, h2.Ch T c (hA _ g11) (fun w => w)⟩
/-- what stood before lies below b0 -/
def Old (fa ta ia sa ca : Nat → Nat) (D : Dt) (b0 : Nat) : Prop := (∀ q, q < D.2.1 → ta q + 4 < b0) ∧ (∀ f, f < D.2.2 → fa f + 1 < b0) ∧ ∀ q j, q < D.2.1 → j < ix (D.1 14 q) → ia (30 * q + j) < b0 ∧ sa (30 * q + j) < b0 ∧ ca (30 * q + j) < b0
theorem Lk.old0 {p : Mem} {D : Dt} {fa ta ia sa ca : Nat → Nat} {od : List Nat} (L : Lk fa ta ia sa ca od p D) (T : Top p) : Old fa ta ia sa ca D (mC p) := by
  refine ⟨fun q hq => ?_, fun f hf => ?_, fun q j hq hj => ?_⟩
  · obtain ⟨-, -, -, -, -, -, -, -, -, -, -, -, -, -, -, -, -, -, -, g20, -⟩ := L.2.1.2.1 q hq
    exact T.lt (by rw [g20]; decide)
  · obtain ⟨-, z, -⟩ := L.1.2 f hf
    exact T.lt (by rw [z.2.2.2.1]; decide)
  · obtain ⟨g1, g2, -, -, -, -, -, -, -, -, -, g12, g13, -⟩ := L.2.2.2.1 q j hq hj
    exact ⟨T.lt (by rw [g2]; decide), T.lt (by rw [g12]; decide), T.lt (by rw [g13]; decide)⟩
/-- the new ITEMS -/
def Nit (p r : Mem) (x fc s0 k nm b0 : Nat) (it sA cA : Nat → Nat) : Prop := ∀ j, j < k → (∃ lo hi cc s, Got p r x (30 * x + j) (it j) nm lo hi cc s (sA j) (cA j) ∧ hi ≤ 200 * (x + 1) ∧ cc ≤ 500 * (x + 1) ∧ aI r 24 (30 * x + j) = nj hi ∧ (s0 = 0 ∨ s0 = 3 → s ≤ 6) ∧ (s0 = 1 ∨ s0 = 2 → 2 ≤ s)) ∧ mI p 257 (it j) = nj fc ∧ b0 ≤ it j ∧ b0 ≤ sA j ∧ b0 ≤ cA j
section Li
variable {p p' r : Mem} {D D' : Dt} {x fc k s0 v aw nc nm i0 b0 : Nat} {it sA cA fa ta ia sa ca : Nat → Nat} {od : List Nat} {o : Option Nat}
theorem litem_new (h : Nt D D' x fc k s0 v aw nm) (T : Top p) (L : Lk fa ta ia sa ca od p D) (W : WText D nc) (WI : WItems D nc) (hn : nc ≤ nm) (F : FinP p p' D x fc k s0 v it ta od o i0) (ho : o = if s0 = 0 then none else some (ta aw)) (O : Old fa ta ia sa ca D b0) (I : Nit p r x fc s0 k nm b0 it sA cA) (h0 : mI r 1551 0 = 0) (R : Rw r D' x) : LItem (iaN x ia it) (iaN x sa sA) (iaN x ca cA) p' D' ∧ WItems D' nm := by
  have hh := h
  obtain ⟨N, n1, n2, n3, n4, n5, n6, n7, n8, n9, n10, n11, n12, n13, n14, n15, n16, n17, n18, n19, n20⟩ := h
  obtain ⟨⟨CC, T', c8, -⟩, F2, F3, -⟩ := F
  have hx := N.1
  have hx' := N.2.1
  have hf := N.2.2.1
  have hx23 := N.2.2.2.2.2.2.1
  have hf160 := N.2.2.2.2.2.2.2
  have hA : ∀ b, 51 ≤ b → b ∉ [14, 15] := fun b hb => by simp only [List.mem_cons, List.not_mem_nil, or_false]; omega
  have hF : ∀ f, 256 ≤ f → f ≤ 265 → f ∉ [266, 267, 641, 1415, 514, 515] := fun f f1 f2 => by simp only [List.mem_cons, List.not_mem_nil, or_false]; omega
  have new : ∀ j, j < k → ItemAt p' D' x (30 * x + j) (it j) (sA j) (cA j) ∧ WItem D' nm x (30 * x + j) := fun j hj => by
    obtain ⟨⟨lo, hi, cc, s, G, g1, g2, g3, g4, g5⟩, g6, g7, g8, g9⟩ := I j hj
    have la : it j < mC p := T.lt (by rw [G.1.2.2.2.1]; decide)
    have G' : Got p' r x (30 * x + j) (it j) nm lo hi cc s (sA j) (cA j) := G.keep0 T CC hA (fun f f1 f2 => CC.2.2.1 f (hF f f1 f2) _ la) (fun _ _ _ _ => rfl) (fun _ _ => rfl) (fun _ _ _ _ _ => rfl) (fun _ _ => ⟨rfl, rfl⟩) (fun w => w) (by omega) (Nat.le_refl _)
    refine item_new G' h0 n5 g3 g1 g2 (by omega) (by omega) n1 n2 ⟨g4, g5⟩ R (by rw [CC.i (by decide) la, g6, n9]) (fun z => ?_)
    subst z
    have hs : s0 ≠ 0 := fun w => by have := g4 (Or.inl w); omega
    have hs3 : aw < x := n15 hs
    rw [if_neg hs] at ho
    have h256 : mI p 256 (it j) = nj 40 := G.1.2.2.2.2.1
    have e81 : mI p 1281 (ta aw) = D.1 12 aw := (L.2.1.2.1 aw (by omega)).2.2.2.1
    have A := F3 j hj h256 (D.1 12 aw) (by rw [ho]; show some (mI p 1281 (ta aw)) = _; rw [e81])
    obtain ⟨u, u1, u2, u3, u4⟩ := G.2.1 (by omega)
    have e16 : D'.1 16 (30 * x + j) = mI p 258 (it j) := by
      rw [R.2.2 16 _ (by omega) (by omega) (by omega) (msk_i (by omega) (by omega) (by omega)), u3, u4, if_pos (by omega)]
    have el : ∀ sd : Int32, claimS D' sd (D'.1 12 (ix (D'.1 13 x))) (D'.1 16 (30 * x + j)) (ix (D'.1 12 x)) = claimS D sd (D.1 12 aw) (mI p 258 (it j)) fc := fun sd => by
      rw [n10, ix_nj (by omega), n9, ix_nj (by omega), e16, N.to (by omega) (by omega) hs3, N.claim fc (Nat.le_refl _)]
    unfold logS ansS
    rw [el, el]
    exact A
  have old : ∀ q j, q < x → j < ix (D.1 14 q) → ItemAt p' D' q (30 * q + j) (ia (30 * q + j)) (sa (30 * q + j)) (ca (30 * q + j)) ∧ WItem D' nm q (30 * q + j) := fun q j hq hj => by
    obtain ⟨-, -, -, -, -, -, -, ⟨n, y1, y2⟩⟩ := W.2.2.1 q (by omega)
    have hj30 : j < 30 := by rw [y2, ix_nj (by omega)] at hj; omega
    have I0 := L.2.2.2.1 q j (by omega) hj
    have W0 := WI q j (by omega) hj
    have l1 : ia (30 * q + j) < mC p := T.lt (by rw [I0.2.1]; decide)
    obtain ⟨f1, f2⟩ := F2 _ l1 (fun j' hj' e => by
      have q1 := (O.2.2 q j (by omega) hj).1
      have q2 := (I j' hj').2.2.1
      omega)
    exact ⟨ItemAt.old N (itemAt_mv I0 T CC hF hA f1 f2) W0 W hq (by omega), WItem.old N W0 hq (by omega) hn⟩
  constructor
  · intro q j hq hj
    rw [hx'] at hq
    by_cases z : q = x
    · subst z
      rw [n16, ix_nj (by omega)] at hj
      rw [iaN_n, iaN_n, iaN_n]
      exact (new j hj).1
    · rw [N.to (by omega) (by omega) (by omega)] at hj
      obtain ⟨-, -, -, -, -, -, -, ⟨n, y1, y2⟩⟩ := W.2.2.1 q (by omega)
      have hj30 : j < 30 := by rw [y2, ix_nj (by omega)] at hj; omega
      rw [iaN_o (by omega) hj30, iaN_o (by omega) hj30, iaN_o (by omega) hj30]
      exact (old q j (by omega) hj).1
  · intro q j hq hj
    rw [hx'] at hq
    by_cases z : q = x
    · subst z
      rw [n16, ix_nj (by omega)] at hj
      exact (new j hj).2
    · rw [N.to (by omega) (by omega) (by omega)] at hj
      exact (old q j (by omega) hj).2
theorem lsep_new (h : Nt D D' x fc k s0 v aw nm) (T : Top p) (L : Lk fa ta ia sa ca od p D) (W : WText D nc) (inj : ∀ j j', j < k → j' < k → it j = it j' → j = j') (O : Old fa ta ia sa ca D b0) (hb : b0 ≤ mC p) (I : Nit p r x fc s0 k nm b0 it sA cA) : LSep (up1 fa fc (mC p + 6)) (up1 ta x (mC p + 1)) (iaN x ia it) (iaN x sa sA) (iaN x ca cA) D' := by
  obtain ⟨N, n1, n2, n3, n4, n5, n6, n7, n8, n9, n10, n11, n12, n13, n14, n15, n16, n17, n18, n19, n20⟩ := h
  have hx := N.1
  have hx' := N.2.1
  have hf := N.2.2.1
  have hf' := N.2.2.2.1
  have hx23 := N.2.2.2.2.2.2.1
  have dT : ∀ a, a < mC p → (∀ q, q < x → a ≠ ta q + 1 ∧ a ≠ ta q + 2 ∧ a ≠ ta q + 3 ∧ a ≠ ta q + 4) → ¬ dyT (up1 ta x (mC p + 1)) (x + 1) a := fun a ha hq => by
    rintro ⟨q, q1, q2⟩
    by_cases z : q = x
    · rw [z, up1_eq] at q2; omega
    · rw [up1_ne z] at q2
      have := hq q (by omega)
      omega
  have dF : ∀ a, a < mC p → (∀ f, f < fc → a ≠ fa f + 1) → ¬ dyF (up1 fa fc (mC p + 6)) (fc + 1) a := fun a ha hq => by
    rintro ⟨q, q1, q2⟩
    by_cases z : q = fc
    · rw [z, up1_eq] at q2; omega
    · rw [up1_ne z] at q2
      exact hq q (by omega) q2
  have h30 : ∀ q j, q < x → j < ix (D.1 14 q) → j < 30 := fun q j hq hj => by
    obtain ⟨-, -, -, -, -, -, -, ⟨n, y1, y2⟩⟩ := W.2.2.1 q (by omega)
    rw [y2, ix_nj (by omega)] at hj
    omega
  have hlt : ∀ j, j < k → it j < mC p ∧ sA j < mC p ∧ cA j < mC p := fun j hj => by
    obtain ⟨⟨lo, hi, cc, s, G, -⟩, -⟩ := I j hj
    exact ⟨T.lt (by rw [G.1.2.2.2.1]; decide), T.lt (by rw [G.1.2.2.2.2.2.2.2.2.2.1]; decide), T.lt (by rw [G.1.2.2.2.2.2.2.2.2.2.2.1]; decide)⟩
  refine ⟨fun q j hq hj => ?_, fun q j q' j' hq hj hq' hj' e => ?_⟩
  · rw [hx'] at hq
    rw [hx', hf']
    by_cases z : q = x
    · subst z
      rw [n16, ix_nj (by omega)] at hj
      rw [iaN_n, iaN_n]
      obtain ⟨-, -, i1, i2, i3⟩ := I j hj
      obtain ⟨l1, l2, l3⟩ := hlt j hj
      have ot : ∀ q', q' < q → ta q' + 4 < b0 := fun q' hq' => O.1 q' (by omega)
      have of : ∀ f, f < fc → fa f + 1 < b0 := fun f hf' => O.2.1 f (by omega)
      exact ⟨dT _ l2 (fun q' hq' => by have := ot q' hq'; omega), dT _ l3 (fun q' hq' => by have := ot q' hq'; omega), dF _ l2 (fun f hf' => by have := of f hf'; omega), dF _ l3 (fun f hf' => by have := of f hf'; omega)⟩
    · rw [N.to (by omega) (by omega) (by omega)] at hj
      have hj30 := h30 q j (by omega) hj
      obtain ⟨z1, z2, z3, z4⟩ := L.2.2.2.2.1 q j (by omega) hj
      obtain ⟨-, o2, o3⟩ := O.2.2 q j (by omega) hj
      rw [iaN_o (by omega) hj30, iaN_o (by omega) hj30]
      exact ⟨dT _ (by omega) (fun q' hq' => ⟨fun e => z1 ⟨q', by omega, Or.inl e⟩, fun e => z1 ⟨q', by omega, Or.inr (Or.inl e)⟩, fun e => z1 ⟨q', by omega, Or.inr (Or.inr (Or.inl e))⟩, fun e => z1 ⟨q', by omega, Or.inr (Or.inr (Or.inr e))⟩⟩), dT _ (by omega) (fun q' hq' => ⟨fun e => z2 ⟨q', by omega, Or.inl e⟩, fun e => z2 ⟨q', by omega, Or.inr (Or.inl e)⟩, fun e => z2 ⟨q', by omega, Or.inr (Or.inr (Or.inl e))⟩, fun e => z2 ⟨q', by omega, Or.inr (Or.inr (Or.inr e))⟩⟩), dF _ (by omega) (fun f hf' e => z3 ⟨f, by omega, e⟩), dF _ (by omega) (fun f hf' e => z4 ⟨f, by omega, e⟩)⟩
  · rw [hx'] at hq hq'
    by_cases z1 : q = x
    · by_cases z2 : q' = x
      · rw [z1] at hj e ⊢
        rw [z2] at hj' e ⊢
        rw [n16, ix_nj (by omega)] at hj hj'
        rw [iaN_n, iaN_n] at e
        rw [inj j j' hj hj' e]
      · rw [z1] at hj e
        rw [n16, ix_nj (by omega)] at hj
        rw [N.to (by omega) (by omega) (by omega)] at hj'
        rw [iaN_n, iaN_o (by omega) (h30 q' j' (by omega) hj')] at e
        have q1 := (O.2.2 q' j' (by omega) hj').1
        have q2 := (I j hj).2.2.1
        omega
    · by_cases z2 : q' = x
      · rw [z2] at hj' e
        rw [n16, ix_nj (by omega)] at hj'
        rw [N.to (by omega) (by omega) (by omega)] at hj
        rw [iaN_n, iaN_o (by omega) (h30 q j (by omega) hj)] at e
        have q1 := (O.2.2 q j (by omega) hj).1
        have q2 := (I j' hj').2.2.1
        omega
      · rw [N.to (by omega) (by omega) (by omega)] at hj hj'
        rw [iaN_o (by omega) (h30 q j (by omega) hj), iaN_o (by omega) (h30 q' j' (by omega) hj')] at e
        exact L.2.2.2.2.2 q j q' j' (by omega) hj (by omega) hj' e
theorem sc_new (h : Nt D D' x fc k s0 v aw nm) (T : Top p) (L : Lk fa ta ia sa ca od p D) (hS : Sc ta p D) (F : FinP p p' D x fc k s0 v it ta od o i0) (hw : 0 ≤ mI p 1157 25) : Sc (up1 ta x (mC p + 1)) p' D' := by
  obtain ⟨N, -⟩ := h
  obtain ⟨⟨CC, T', c8, -⟩, -, -, ⟨-, -, -, -, -, -, t7, -, -, -, -, -, -, -, -, -, -, -, -, -, -, -, t23⟩, -⟩ := F
  have T1 := T.1
  have hx := N.1
  have hx' := N.2.1
  obtain ⟨s1, s2, s3, s4⟩ := hS
  refine ⟨fun j a b c' d e => by rw [CC.ai (by decide) (fun w => w) (by omega)]; exact s1 j a b c' d e, fun q hq hn => ?_, fun q j hq => ?_, by rw [CC.r (by decide) (by omega)]; exact s4⟩
  · rw [hx'] at hq
    by_cases z : q = x
    · rw [z, up1_eq]; exact t7
    · rw [N.to (by omega) (by omega) (by omega)] at hn
      have lk : ta q < mC p := T.lt (by rw [(L.2.1.2.1 q (by omega)).2.1]; decide)
      rw [up1_ne z, CC.i (by decide) lk]
      exact s2 q (by omega) hn
  · rw [hx'] at hq
    rw [CC.i (by decide) (by omega)]
    by_cases z : q = x
    · rw [z, up1_eq, show mC p + 1 + 3 = mC p + 4 by omega, t23]
      exact ⟨by decide, hw⟩
    · obtain ⟨t1, -, -, -, -, -, -, -, -, -, -, -, -, -, -, -, -, -, t19, -⟩ := L.2.1.2.1 q (by omega)
      have lk : ta q + 3 < mC p := T.lt (by rw [t19]; decide)
      rw [up1_ne z, CC.ai (by simp only [List.mem_cons, List.not_mem_nil, or_false]; omega) (fun w => w) lk]
      exact s3 q j (by omega)
end Li
