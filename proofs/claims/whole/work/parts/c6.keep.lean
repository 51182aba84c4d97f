/-! Layer C: an ITEM stays while the next ones are taken -/
def KpF : List Nat := 782 :: ItF
def Kip (p p' : Mem) : Prop := Ch KpF [2, 3, 23, 24] nil p p' ∧ ∀ b, b < mC p → ∀ f, 256 ≤ f → f ≤ 268 → mI p' f b = mI p f b ∧ mL p' f b = mL p f b ∧ mR p' f b = mR p f b
/-- ITEMS below i, lits below l, codes below c stay -/
def Kir (i l c : Nat) (r r' : Mem) : Prop := Ch RiF (14 :: RiA) nil r r' ∧ mC r' = mC r ∧ mS r' = mS r ∧ (∀ j, j < c → aI r' 33 j = aI r 33 j ∧ aI r' 34 j = aI r 34 j) ∧ (∀ j, j < l → ∀ x, 27 ≤ x → x ≤ 32 → aI r' x j = aI r x j) ∧ (∀ y j, 15 ≤ y → y ≤ 25 → j < i → aI r' y j = aI r y j) ∧ (∀ j, j < 4 * i → aI r' 26 j = aI r 26 j) ∧ ∀ j, 30 * j + 30 ≤ i → aI r' 14 j = aI r 14 j
theorem Kip.rfl {p : Mem} : Kip p p := ⟨Ch.rfl, fun _ _ _ _ _ => ⟨by trivial, by trivial, by trivial⟩⟩
theorem Kip.trans {p q s : Mem} (h : Kip p q) (k : Kip q s) : Kip p s := ⟨Ch.trans h.1 k.1, fun b hb f f1 f2 => by
  have y := h.2 b hb f f1 f2
  have z := k.2 b (Nat.lt_of_lt_of_le hb h.1.1.1) f f1 f2
  exact ⟨z.1.trans y.1, z.2.1.trans y.2.1, z.2.2.trans y.2.2⟩⟩
theorem Kir.rfl {i l c : Nat} {r : Mem} : Kir i l c r r := ⟨Ch.rfl, by trivial, by trivial, fun _ _ => ⟨by trivial, by trivial⟩, fun _ _ _ _ _ => by trivial, fun _ _ _ _ _ => by trivial, fun _ _ => by trivial, fun _ _ => by trivial⟩
theorem Kir.trans {i l c i1 l1 c1 : Nat} {r r1 r2 : Mem} (h : Kir i l c r r1) (k : Kir i1 l1 c1 r1 r2) (hi : i ≤ i1) (hl : l ≤ l1) (hc : c ≤ c1) : Kir i l c r r2 := by
  obtain ⟨a1, a2, a3, a4, a5, a6, a7, a8⟩ := h
  obtain ⟨b1, b2, b3, b4, b5, b6, b7, b8⟩ := k
  exact ⟨Ch.trans a1 b1, b2.trans a2, b3.trans a3, fun j hj => ⟨(b4 j (by omega)).1.trans (a4 j hj).1, (b4 j (by omega)).2.trans (a4 j hj).2⟩, fun j hj x h1 h2 => (b5 j (by omega) x h1 h2).trans (a5 j hj x h1 h2), fun y j h1 h2 h3 => (b6 y j h1 h2 (by omega)).trans (a6 y j h1 h2 h3), fun j hj => (b7 j (by omega)).trans (a7 j hj), fun j hj => (b8 j (by omega)).trans (a8 j hj)⟩
theorem Ri.kir {i l c : Nat} {r r1 : Mem} (h : Ri i l c r r1) (h82 : 82 ≤ mC r) : Kir i l c r r1 := ⟨h.1.mono (fun _ z => z) (fun _ z => List.mem_cons_of_mem _ z) (fun _ z => z), h.2.1, h.2.2.1, h.2.2.2.1, h.2.2.2.2.1, fun y j h1 h2 h3 => h.2.2.2.2.2.1 y j h1 h2 (by omega), h.2.2.2.2.2.2, fun j _ => by rw [h.1.ai (by decide) (fun z => z) (by omega)]⟩
theorem Kir.w14 {i l c x : Nat} {v : Int32} {r r1 : Mem} (h : Kir i l c r r1) (hi : i < 30 * x + 30) : Kir i l c r (wI r1 14 x v) := by
  obtain ⟨a1, a2, a3, a4, a5, a6, a7, a8⟩ := h
  refine ⟨a1.wI (Or.inl (by decide)), a2, a3, ?_, ?_, ?_, ?_, ?_⟩
  · intro j hj
    rw [k_aI_wI (by omega), k_aI_wI (by omega)]; exact a4 j hj
  · intro j hj y h1 h2
    rw [k_aI_wI (by omega)]; exact a5 j hj y h1 h2
  · intro y j h1 h2 h3
    rw [k_aI_wI (by omega)]; exact a6 y j h1 h2 h3
  · intro j hj
    rw [k_aI_wI (by omega)]; exact a7 j hj
  · intro j hj
    rw [wI_lo (by omega)]; exact a8 j hj
theorem conS_cg {D D' : Dt} {nt : Nat → Nat} : ∀ (pa po : Bool) (L : List Nat), (∀ k, k ∈ L → litS D' nt k = litS D nt k ∧ D'.1 29 k = D.1 29 k) → conS D' nt pa po L = conS D nt pa po L
  | _, _, [], _ => rfl
  | pa, po, [k], h => by
    unfold conS
    rw [(h k (by simp)).1]
  | pa, po, k :: k2 :: l, h => by
    unfold conS
    rw [(h k (by simp)).1, (h k2 (by simp)).2, conS_cg false true (k2 :: l) (fun j hj => h j (by simp [hj])), conS_cg true po (k2 :: l) (fun j hj => h j (by simp [hj]))]
theorem Got.keep0 {x i a nm lo hi cc s sA cA nm' : Nat} {p r p' r' : Mem} {F A : List Nat} (h : Got p r x i a nm lo hi cc s sA cA) (T : Top p) (kp : Ch F A nil p p') (kA : ∀ b, 51 ≤ b → b ∉ A) (kp2 : ∀ f, 256 ≤ f → f ≤ 265 → mI p' f a = mI p f a ∧ mL p' f a = mL p f a ∧ mR p' f a = mR p f a) (eA : ∀ y, 15 ≤ y → y ≤ 25 → y ≠ 24 → aI r' y i = aI r y i) (e26 : ∀ b, b < 4 → aI r' 26 (4 * i + b) = aI r 26 (4 * i + b)) (eL : ∀ j, j < hi → ∀ x, 27 ≤ x → x ≤ 32 → aI r' x j = aI r x j) (eC : ∀ j, j < cc → aI r' 33 j = aI r 33 j ∧ aI r' 34 j = aI r 34 j) (k0 : mI r' 1551 0 = 0 → mI r 1551 0 = 0) (hx : x < 1000) (hn : nm ≤ nm') : Got p' r' x i a nm' lo hi cc s sA cA := by
  obtain ⟨⟨a1, a2, a3, a4, a5, a6, a7, a8, a9, a10, a11, a12, a13, a14⟩, b1, b2, b3, b4, b5, b6, b7, b8, b9, b10, b11⟩ := h
  have la : a < mC p := T.lt (by rw [a4]; decide)
  have lS : sA < mC p := T.lt (by rw [a10]; decide)
  have lC : cA < mC p := T.lt (by rw [a11]; decide)
  have eI : ∀ f, 256 ≤ f → f ≤ 265 → mI p' f a = mI p f a := fun f f1 f2 => (kp2 f f1 f2).1
  have hA : ∀ b L, 51 ≤ b → Arr p b L → Arr p' b L := fun b L hb hL => hL.Ch T kp (kA b hb) (fun z => z)
  have hS : ∀ (nt : Nat → Nat) k, lo ≤ k → k < hi → litS (rwD r' x) nt k = litS (rwD r x) nt k ∧ (WLit (rwD r x) k → WLit (rwD r' x) k) := fun nt k q1 q2 => lit_st hx (b7.2.1 k q1 q2) (fun y y1 y2 => eL k (by omega) y y1 y2) (fun j hj => eC j (by omega))
  refine ⟨⟨a1, by rw [eA 15 (by omega) (by omega) (by omega)]; exact a2, a3, by rw [kp.t la]; exact a4, by rw [eI 256 (by omega) (by omega)]; exact a5, by rw [(kp2 262 (by omega) (by omega)).2.2]; exact a6, by rw [(kp2 263 (by omega) (by omega)).2.2]; exact a7, a8, a9, by rw [kp.t lS]; exact a10, by rw [kp.t lC]; exact a11, by rw [eA 23 (by omega) (by omega) (by omega)]; exact a12, a13, a14⟩, fun q => ?_, fun q => ?_, fun q => ⟨fun w => ?_, ?_⟩, fun q => ?_, fun q => ?_, b6, ⟨fun q => ?_, fun k q1 q2 => ?_, fun w k q1 q2 => (hS (fun _ => 0) k q1 q2).2 (b7.2.2 (k0 w) k q1 q2)⟩, fun q => ?_, fun q => ?_, fun q => ?_, fun q => ?_⟩
  · obtain ⟨u, u1, u2, u3, u4⟩ := b1 q
    exact ⟨u, by omega, u2, by rw [eA 16 (by omega) (by omega) (by omega)]; exact u3, by rw [eI 258 (by omega) (by omega)]; exact u4⟩
  · rw [eA 16 (by omega) (by omega) (by omega), eI 258 (by omega) (by omega)]; exact b2 q
  · rw [eA 17 (by omega) (by omega) (by omega), eI 259 (by omega) (by omega)]; exact (b3 q).1 (k0 w)
  · unfold GTie
    rw [eA 18 (by omega) (by omega) (by omega), eA 19 (by omega) (by omega) (by omega), eA 20 (by omega) (by omega) (by omega), eI 260 (by omega) (by omega), eI 261 (by omega) (by omega)]
    rcases (b3 q).2 with w | ⟨w, u, v, u1, u2, u3⟩
    · exact Or.inl w
    · exact Or.inr ⟨w, u, v, by omega, by omega, u3⟩
  · rw [eI 260 (by omega) (by omega)]; exact b4 q
  · obtain ⟨c0, L, u1, u2, u3, u4, u5, u6⟩ := b5 q
    refine ⟨c0, L, by rw [eA 21 (by omega) (by omega) (by omega)]; exact u1, by rw [eA 22 (by omega) (by omega) (by omega)]; exact u2, u3, fun j kv hj => ?_, u5, hA _ _ a8 u6⟩
    have hj' : j < L.length := (List.getElem?_eq_some_iff.mp hj).1
    have := eC (c0 + j) (by omega)
    rw [this.1, this.2]
    exact u4 j kv hj
  · rw [eL lo (by omega) 29 (by omega) (by omega)]; exact b7.1 q
  · exact (b7.2.1 k q1 q2).st (fun y y1 y2 => eL k (by omega) y y1 y2) (Nat.le_refl _) a14
  · obtain ⟨nt, u1, u2⟩ := b8 q
    refine ⟨nt, fun k q1 q2 => by rw [eL k (by omega) 28 (by omega) (by omega)]; exact u1 k q1 q2, ?_⟩
    rw [conS_cg false false (List.range' lo (hi - lo)) (fun k hk => by
      obtain ⟨w1, w2⟩ := List.mem_range'_1.mp hk
      exact ⟨(hS nt k w1 (by omega)).1, eL k (by omega) 29 (by omega) (by omega)⟩)]
    exact hA _ _ a9 u2
  · obtain ⟨k, u1, u2, u3, u4⟩ := b9 q
    refine ⟨k, u1, by rw [eA 25 (by omega) (by omega) (by omega)]; exact u2, fun b hb => ?_, fun w u hu => ?_⟩
    · obtain ⟨v, v1, v2, v3⟩ := u3 b hb
      exact ⟨v, by omega, v2, by rw [e26 b (by omega)]; exact v3⟩
    · rw [(kp2 264 (by omega) (by omega)).2.1, u4 (by omega) u hu]
      constructor
      · rintro ⟨b, v1, v2⟩
        exact ⟨b, v1, by rw [e26 b (by omega)]; exact v2⟩
      · rintro ⟨b, v1, v2⟩
        exact ⟨b, v1, by rw [← e26 b (by omega)]; exact v2⟩
  · rw [eA 17 (by omega) (by omega) (by omega), eI 265 (by omega) (by omega)]; exact b10 q
  · obtain ⟨v, v1, v2, v3, v4⟩ := b11 q
    exact ⟨v, v1, by rw [eA 17 (by omega) (by omega) (by omega)]; exact v2, by rw [eI 265 (by omega) (by omega)]; exact v3, fun w => v4 (k0 w)⟩
theorem Got.keep {x i a nm lo hi cc s sA cA i' l c nm' : Nat} {p r p' r' : Mem} (h : Got p r x i a nm lo hi cc s sA cA) (T : Top p) (kp : Kip p p') (kr : Kir i' l c r r') (k0 : mI r' 1551 0 = 0 → mI r 1551 0 = 0) (hi' : i < i') (hl : hi ≤ l) (hc : cc ≤ c) (hx : x < 1000) (hn : nm ≤ nm') : Got p' r' x i a nm' lo hi cc s sA cA := by
  have la : a < mC p := T.lt (by rw [h.1.2.2.2.1]; decide)
  exact h.keep0 T kp.1 (fun b hb => by simp only [List.mem_cons, List.not_mem_nil, or_false]; omega) (fun f f1 f2 => kp.2 a la f f1 (by omega)) (fun y y1 y2 _ => kr.2.2.2.2.2.1 y i y1 y2 hi') (fun b hb => kr.2.2.2.2.2.2.1 (4 * i + b) (by omega)) (fun j hj => kr.2.2.2.2.1 j (by omega)) (fun j hj => kr.2.2.2.1 j (by omega)) k0 hx hn
/-- an ITEM of the TEXT that is being taken -/
def It1 (p r : Mem) (x fc s0 nm l c j a sA cA : Nat) : Prop := aR p 24 j = some a ∧ (∃ lo hi cc s, Got p r x (30 * x + j) a nm lo hi cc s sA cA ∧ hi ≤ l ∧ cc ≤ c ∧ aI r 24 (30 * x + j) = nj hi ∧ (mI r 1551 0 = 0 → (s0 = 0 ∨ s0 = 3 → s ≤ 6) ∧ (s0 = 1 ∨ s0 = 2 → 2 ≤ s))) ∧ mI p 257 a = nj fc ∧ mI p 266 a = 1 ∧ mI p 267 a = 0
theorem It1.keep {x fc s0 nm l c j a sA cA k l' c' nm' : Nat} {p r p' r' : Mem} (h : It1 p r x fc s0 nm l c j a sA cA) (T : Top p) (kp : Kip p p') (kr : Kir (30 * x + k) l c r r') (k0 : mI r' 1551 0 = 0 → mI r 1551 0 = 0) (hj : j < k) (h24 : aR p' 24 j = aR p 24 j) (hl : l ≤ l') (hc : c ≤ c') (hx : x < 1000) (hn : nm ≤ nm') : It1 p' r' x fc s0 nm' l' c' j a sA cA := by
  obtain ⟨h1, ⟨lo, hi, cc, s, g1, g2, g3, g4, g5⟩, h3, h4, h5⟩ := h
  have la : a < mC p := T.lt (by rw [g1.1.2.2.2.1]; decide)
  exact ⟨by rw [h24]; exact h1, ⟨lo, hi, cc, s, g1.keep T kp kr k0 (by omega) g2 g3 hx hn, by omega, by omega, by rw [kr.2.2.2.2.2.1 24 _ (by omega) (by omega) (by omega)]; exact g4, fun w => g5 (k0 w)⟩, by rw [(kp.2 a la 257 (by omega) (by omega)).1]; exact h3, by rw [(kp.2 a la 266 (by omega) (by omega)).1]; exact h4, by rw [(kp.2 a la 267 (by omega) (by omega)).1]; exact h5⟩
