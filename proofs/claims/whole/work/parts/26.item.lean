/-! Layer C: ITEMS, where the class has them -/
def encC (k v : Int32) : Int32 := if k = 0 then 30000 + v else if k = 1 then (20 + v) * 10000 else (k + 4) * 10000
def segS (D : Dt) (a b : Nat) : List Int32 := (List.range' a (b - a)).map fun c => encC (D.1 33 c) (D.1 34 c)
def litS (D : Dt) (nt : Nat → Nat) (l : Nat) : List Int32 := (if D.1 27 l = 4 then [590000 + D.1 34 (ix (D.1 30 l))] else segS D (ix (D.1 30 l)) (ix (D.1 31 l)) ++ segS D (ix (D.1 31 l)) (ix (D.1 32 l)) ++ [(D.1 27 l + 10) * 10000]) ++ List.replicate (nt l) 580000
def conS (D : Dt) (nt : Nat → Nat) : Bool → Bool → List Nat → List Int32
  | _, _, [] => []
  | pa, po, [l] => litS D nt l ++ ((if pa then [570000] else []) ++ (if po then [560000] else []))
  | pa, po, l :: l2 :: r => litS D nt l ++ ((if pa then [570000] else []) ++ (if D.1 29 l2 = 1 then (if po then [560000] else []) ++ conS D nt false true (l2 :: r) else conS D nt true po (l2 :: r)))
def Arr (p : Mem) (b : Nat) (l : List Int32) : Prop := mT p b = 32 ∧ mN p b = l.length ∧ l.length ≤ 500 ∧ ∀ j v, l[j]? = some v → aI p b j = v
/-- the last LOG or ANSWER (s) of an award and a NAME among the first n FACTS -/
def claimS (D : Dt) (s aw nm : Int32) : Nat → Int32
  | 0 => -1
  | f + 1 => if D.1 44 f = s ∧ D.1 45 f = aw ∧ D.1 46 f = nm then D.1 48 f else claimS D s aw nm f
def logS (D : Dt) (k i : Nat) : Int32 := claimS D 7 (D.1 12 (ix (D.1 13 k))) (D.1 16 i) (ix (D.1 12 k))
def ansS (D : Dt) (k i : Nat) : Int32 := claimS D 8 (D.1 12 (ix (D.1 13 k))) (D.1 16 i) (ix (D.1 12 k))
def ItemAt (p : Mem) (D : Dt) (k i a s c : Nat) : Prop := 51 ≤ a ∧ mT p a = 3 ∧ mI p 256 a = D.1 15 i + 32 ∧ mI p 257 a = D.1 12 k ∧ mI p 258 a = D.1 16 i ∧
  (D.1 15 i = 2 → mI p 259 a = D.1 17 i ∧ mI p 260 a = (if D.1 18 i = 1 then D.1 19 i else -1) ∧ mI p 261 a = (if D.1 18 i = 1 then D.1 20 i else -1)) ∧ (D.1 15 i ≠ 2 → mI p 260 a = -1) ∧
  mR p 262 a = some s ∧ mR p 263 a = some c ∧ 51 ≤ s ∧ 51 ≤ c ∧ mT p s = 32 ∧ mT p c = 32 ∧
  (D.1 15 i = 2 ∨ D.1 15 i = 4 ∨ D.1 15 i = 5 ∨ D.1 15 i = 8 → Arr p s (segS D (ix (D.1 21 i)) (ix (D.1 22 i)))) ∧
  (D.1 15 i = 0 ∨ D.1 15 i = 4 ∨ D.1 15 i = 5 → ∃ nt : Nat → Nat, (∀ l, ix (D.1 23 i) ≤ l → l < ix (D.1 24 i) → D.1 28 l = tI (decide (nt l % 2 = 1))) ∧ Arr p c (conS D nt false false (List.range' (ix (D.1 23 i)) (ix (D.1 24 i) - ix (D.1 23 i))))) ∧
  (D.1 15 i = 4 ∨ D.1 15 i = 5 → ∀ u, u < 60 → ((mL p 264 a).toBitVec.getLsbD u = true ↔ ∃ b, b < ix (D.1 25 i) ∧ D.1 26 (4 * i + b) = nj u)) ∧
  (D.1 15 i = 3 → mI p 265 a = D.1 17 i + 51) ∧ (D.1 15 i = 6 → mI p 265 a = D.1 17 i) ∧
  (D.1 15 i = 8 → (logS D k i ≠ -1 ∧ ansS D k i ≠ -1 → mI p 266 a = jmin (logS D k i) (ansS D k i) ∧ mI p 267 a = jmax (logS D k i) (ansS D k i)) ∧ (logS D k i = -1 ∨ ansS D k i = -1 → mI p 266 a = 1 ∧ mI p 267 a = 0))
def LItem (ia sa ca : Nat → Nat) (p : Mem) (D : Dt) : Prop := ∀ k j, k < D.2.1 → j < ix (D.1 14 k) → ItemAt p D k (30 * k + j) (ia (30 * k + j)) (sa (30 * k + j)) (ca (30 * k + j))
/-- rows of a TEXT that are written anew by questions -/
def dyT (ta : Nat → Nat) (tc : Nat) : Nat → Prop := fun a => ∃ k, k < tc ∧ (a = ta k + 1 ∨ a = ta k + 2 ∨ a = ta k + 3 ∨ a = ta k + 4)
def dyF (fa : Nat → Nat) (fc : Nat) : Nat → Prop := fun a => ∃ k, k < fc ∧ a = fa k + 1
/-- steps lie apart from all that is written -/
def LSep (fa ta ia sa ca : Nat → Nat) (D : Dt) : Prop := (∀ k j, k < D.2.1 → j < ix (D.1 14 k) → ¬ dyT ta D.2.1 (sa (30 * k + j)) ∧ ¬ dyT ta D.2.1 (ca (30 * k + j)) ∧ ¬ dyF fa D.2.2 (sa (30 * k + j)) ∧ ¬ dyF fa D.2.2 (ca (30 * k + j))) ∧ ∀ k j k' j', k < D.2.1 → j < ix (D.1 14 k) → k' < D.2.1 → j' < ix (D.1 14 k') → ia (30 * k + j) = ia (30 * k' + j') → 30 * k + j = 30 * k' + j'
section Fr
variable {F A : List Nat} {dy : Nat → Prop} {p p' : Mem} {D : Dt}
theorem Arr.Ch {b : Nat} {l : List Int32} (h : Arr p b l) (T : Top p) (c : Ch F A dy p p') (hA : b ∉ A) (hd : ¬ dy b) : Arr p' b l := by
  have l1 : b < mC p := T.lt (by rw [h.1]; decide)
  unfold Arr
  rw [c.t l1, c.n l1, c.ai hA hd l1]
  exact h
theorem ItemAt.Ch {k i a s q : Nat} (h : ItemAt p D k i a s q) (T : Top p) (c : Ch F A dy p p') (hF : ∀ f, 256 ≤ f → f < 268 → f ∉ F) (hA : ∀ a, 51 ≤ a → a ∉ A) (hs : ¬ dy s) (hq : ¬ dy q) : ItemAt p' D k i a s q := by
  obtain ⟨g1, g2, g3, g4, g5, g6, g7, g8, g9, g10, g11, g12, g13, g14, g15, g16, g17, g18, g19⟩ := h
  have l1 : a < mC p := T.lt (by rw [g2]; decide)
  have l2 : s < mC p := T.lt (by rw [g12]; decide)
  have l3 : q < mC p := T.lt (by rw [g13]; decide)
  unfold ItemAt
  rw [c.t l1, c.t l2, c.t l3, c.l (hF 264 (by omega) (by omega)) l1, c.r (hF 262 (by omega) (by omega)) l1, c.r (hF 263 (by omega) (by omega)) l1, c.i (hF 256 (by omega) (by omega)) l1, c.i (hF 257 (by omega) (by omega)) l1, c.i (hF 258 (by omega) (by omega)) l1, c.i (hF 259 (by omega) (by omega)) l1, c.i (hF 260 (by omega) (by omega)) l1, c.i (hF 261 (by omega) (by omega)) l1, c.i (hF 265 (by omega) (by omega)) l1, c.i (hF 266 (by omega) (by omega)) l1, c.i (hF 267 (by omega) (by omega)) l1]
  refine ⟨g1, g2, g3, g4, g5, g6, g7, g8, g9, g10, g11, g12, g13, fun z => (g14 z).Ch T c (hA _ g10) hs, fun z => ?_, g16, g17, g18, g19⟩
  obtain ⟨nt, h1, h2⟩ := g15 z
  exact ⟨nt, h1, h2.Ch T c (hA _ g11) hq⟩
theorem LItem.Ch {ia sa ca : Nat → Nat} (h : LItem ia sa ca p D) (T : Top p) (c : Ch F A dy p p') (hF : ∀ f, 256 ≤ f → f < 268 → f ∉ F) (hA : ∀ a, 51 ≤ a → a ∉ A) (hd : ∀ k j, k < D.2.1 → j < ix (D.1 14 k) → ¬ dy (sa (30 * k + j)) ∧ ¬ dy (ca (30 * k + j))) : LItem ia sa ca p' D :=
  fun k j hk hj => (h k j hk hj).Ch T c hF hA (hd k j hk hj).1 (hd k j hk hj).2
end Fr
section Ap
variable {D : Dt} {s a b c v : Int32} {g : Nat → Int32}
theorem apF_lo {x j : Nat} (h : x < 44) : (apF D s a b c v g).1 x j = D.1 x j := apF_o (Or.inr h) (by omega)
theorem apF_old {x j : Nat} (h : j < D.2.2) (hx : x ≠ 49) : (apF D s a b c v g).1 x j = D.1 x j := apF_o (Or.inl (by omega)) hx
theorem claimS_ap {s' aw nm : Int32} : ∀ n, n ≤ D.2.2 → claimS (apF D s a b c v g) s' aw nm n = claimS D s' aw nm n
  | 0, _ => rfl
  | n + 1, h => by
    unfold claimS
    rw [apF_old (by omega) (by decide), apF_old (by omega) (by decide), apF_old (by omega) (by decide), apF_old (by omega) (by decide), claimS_ap n (by omega)]
theorem segS_ap {x y : Nat} : segS (apF D s a b c v g) x y = segS D x y := by
  unfold segS
  congr 1
  funext z
  rw [apF_lo (by omega), apF_lo (by omega)]
theorem litS_ap {nt : Nat → Nat} {l : Nat} : litS (apF D s a b c v g) nt l = litS D nt l := by
  unfold litS
  rw [apF_lo (by omega), apF_lo (by omega), apF_lo (by omega), apF_lo (by omega), apF_lo (by omega), segS_ap, segS_ap]
theorem conS_ap {nt : Nat → Nat} : ∀ (pa po : Bool) (l : List Nat), conS (apF D s a b c v g) nt pa po l = conS D nt pa po l
  | _, _, [] => rfl
  | pa, po, [l] => by
    unfold conS
    rw [litS_ap]
  | pa, po, l :: l2 :: r => by
    unfold conS
    rw [litS_ap, apF_lo (by omega), conS_ap false true (l2 :: r), conS_ap true po (l2 :: r)]
theorem ItemAt.ap {p : Mem} {k i x y z : Nat} (h : ItemAt p D k i x y z) (hk : ix (D.1 12 k) ≤ D.2.2) : ItemAt p (apF D s a b c v g) k i x y z := by
  have e1 : logS (apF D s a b c v g) k i = logS D k i := by
    unfold logS
    rw [apF_lo (by omega), apF_lo (by omega), apF_lo (by omega), apF_lo (by omega), claimS_ap _ hk]
  have e2 : ansS (apF D s a b c v g) k i = ansS D k i := by
    unfold ansS
    rw [apF_lo (by omega), apF_lo (by omega), apF_lo (by omega), apF_lo (by omega), claimS_ap _ hk]
  unfold ItemAt
  simp only [apF_lo (D := D) (s := s) (a := a) (b := b) (c := c) (v := v) (g := g) (show 15 < 44 by omega), apF_lo (D := D) (s := s) (a := a) (b := b) (c := c) (v := v) (g := g) (show 12 < 44 by omega), apF_lo (D := D) (s := s) (a := a) (b := b) (c := c) (v := v) (g := g) (show 16 < 44 by omega), apF_lo (D := D) (s := s) (a := a) (b := b) (c := c) (v := v) (g := g) (show 17 < 44 by omega), apF_lo (D := D) (s := s) (a := a) (b := b) (c := c) (v := v) (g := g) (show 18 < 44 by omega), apF_lo (D := D) (s := s) (a := a) (b := b) (c := c) (v := v) (g := g) (show 19 < 44 by omega), apF_lo (D := D) (s := s) (a := a) (b := b) (c := c) (v := v) (g := g) (show 20 < 44 by omega), apF_lo (D := D) (s := s) (a := a) (b := b) (c := c) (v := v) (g := g) (show 21 < 44 by omega), apF_lo (D := D) (s := s) (a := a) (b := b) (c := c) (v := v) (g := g) (show 22 < 44 by omega), apF_lo (D := D) (s := s) (a := a) (b := b) (c := c) (v := v) (g := g) (show 23 < 44 by omega), apF_lo (D := D) (s := s) (a := a) (b := b) (c := c) (v := v) (g := g) (show 24 < 44 by omega), apF_lo (D := D) (s := s) (a := a) (b := b) (c := c) (v := v) (g := g) (show 25 < 44 by omega), apF_lo (D := D) (s := s) (a := a) (b := b) (c := c) (v := v) (g := g) (show 26 < 44 by omega), apF_lo (D := D) (s := s) (a := a) (b := b) (c := c) (v := v) (g := g) (show 28 < 44 by omega), segS_ap, conS_ap, e1, e2]
  exact h
end Ap
