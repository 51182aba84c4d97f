/-! Layer C: what holds of ITEMS; pigeons and sorted lists -/
def WItem (D : Dt) (nc k i : Nat) : Prop := ∃ s, s ≤ 8 ∧ D.1 15 i = nj s ∧
  (D.1 8 k = 0 ∨ D.1 8 k = 3 → s ≤ 6) ∧ (D.1 8 k = 1 ∨ D.1 8 k = 2 → 2 ≤ s) ∧
  (s = 1 ∨ s = 2 ∨ s = 4 ∨ s = 5 ∨ s = 7 ∨ s = 8 → ∃ u, u < nc ∧ D.1 16 i = nj u) ∧ (s = 0 ∨ s = 3 ∨ s = 6 → D.1 16 i = -1) ∧
  (s = 2 → (D.1 18 i = 0 ∨ D.1 18 i = 1) ∧ (D.1 18 i = 1 → ∃ u w, u < nc ∧ w < nc ∧ D.1 19 i = nj u ∧ D.1 20 i = nj w) ∧ ∃ b, b < 65536 ∧ D.1 17 i = nj b) ∧
  (s = 3 → ∃ c, c < 3 ∧ D.1 17 i = nj c) ∧ (s = 6 → ∃ c, 1 ≤ c ∧ c ≤ 240 ∧ D.1 17 i = nj c) ∧
  (s = 2 ∨ s = 4 ∨ s = 5 ∨ s = 8 → ∃ a b, a ≤ b ∧ b ≤ 500 * D.2.1 ∧ D.1 21 i = nj a ∧ D.1 22 i = nj b ∧ wfC D a (b - a) 0) ∧
  (∃ a e, a ≤ e ∧ e ≤ 200 * D.2.1 ∧ D.1 23 i = nj a ∧ D.1 24 i = nj e ∧ (s = 0 → a < e) ∧ (a < e → D.1 29 a = 1) ∧ ∀ l, a ≤ l → l < e → WLit D l) ∧
  (s = 4 ∨ s = 5 → ∃ n, n ≤ 4 ∧ D.1 25 i = nj n ∧ ∀ b, b < n → ∃ u, u < nc ∧ D.1 26 (4 * i + b) = nj u)
def WItems (D : Dt) (nc : Nat) : Prop := ∀ k j, k < D.2.1 → j < ix (D.1 14 k) → WItem D nc k (30 * k + j)
section Wi
variable {D D' : Dt} {nc : Nat}
theorem wfC_eqD (e : ∀ x, x < 44 → D'.1 x = D.1 x) : ∀ (n c d : Nat), wfC D' c n d = wfC D c n d
  | 0, _, _ => rfl
  | n + 1, c, d => by
    unfold wfC
    rw [e 33 (by omega), e 34 (by omega), wfC_eqD e n, wfC_eqD e n]
theorem WLit_eqD (e : ∀ x, x < 44 → D'.1 x = D.1 x) (e2 : D'.2.1 = D.2.1) (l : Nat) : WLit D' l = WLit D l := by
  unfold WLit
  simp only [e 27 (by omega), e 28 (by omega), e 29 (by omega), e 30 (by omega), e 31 (by omega), e 32 (by omega), e 34 (by omega), e2, wfC_eqD e]
theorem WItems.eqD (e : ∀ x, x < 44 → D'.1 x = D.1 x) (e2 : D'.2.1 = D.2.1) (h : WItems D nc) : WItems D' nc := by
  unfold WItems WItem
  simp only [e 8 (by omega), e 14 (by omega), e 15 (by omega), e 16 (by omega), e 17 (by omega), e 18 (by omega), e 19 (by omega), e 20 (by omega), e 21 (by omega), e 22 (by omega), e 23 (by omega), e 24 (by omega), e 25 (by omega), e 26 (by omega), e 29 (by omega), e2, wfC_eqD e, WLit_eqD e e2]
  exact h
theorem WItems.ap {s a b c v : Int32} {g : Nat → Int32} (h : WItems D nc) : WItems (apF D s a b c v g) nc := h.eqD (fun x hx => funext fun j => apF_lo hx) rfl
theorem WItems.cell {j : Nat} {v : Int32} (h : WItems D nc) : WItems (upC D j v) nc := h.eqD (fun x hx => funext fun i => upC_o (by omega)) rfl
end Wi
/-- as many pigeons as holes -/
theorem pigeon : ∀ (n : Nat) (l : List Nat), l.Nodup → (∀ x, x ∈ l → x < n) → l.length ≤ n
  | 0, l, _, h => by
    cases l with
    | nil => simp
    | cons a l => exact absurd (h a (by simp)) (by omega)
  | n + 1, l, hd, h => by
    by_cases q : n ∈ l
    · have h1 := pigeon n (l.erase n) (hd.erase n) (fun x hx => by
        have := (hd.mem_erase_iff).mp hx
        have := h x this.2
        omega)
      rw [List.length_erase_of_mem q] at h1
      omega
    · have h1 := pigeon n l hd (fun x hx => by
        have := h x hx
        have : x ≠ n := fun e => q (e ▸ hx)
        omega)
      omega
theorem sorted_eq {α : Type} {R : α → α → Prop} (irr : ∀ a, ¬ R a a) (asy : ∀ a b, R a b → ¬ R b a) : ∀ (l m : List α), l.Pairwise R → m.Pairwise R → (∀ x, x ∈ l ↔ x ∈ m) → l = m
  | [], [], _, _, _ => rfl
  | [], b :: m, _, _, h => absurd ((h b).mpr (by simp)) (by simp)
  | a :: l, [], _, _, h => absurd ((h a).mp (by simp)) (by simp)
  | a :: l, b :: m, h1, h2, h => by
    rw [List.pairwise_cons] at h1 h2
    have hab : a = b := by
      rcases List.mem_cons.mp ((h a).mp (by simp)) with e | e
      · exact e
      · rcases List.mem_cons.mp ((h b).mpr (by simp)) with e' | e'
        · exact e'.symm
        · exact absurd (h1.1 b e') (asy _ _ (h2.1 a e))
    subst hab
    congr 1
    refine sorted_eq irr asy l m h1.2 h2.2 fun x => ⟨fun hx => ?_, fun hx => ?_⟩
    · rcases List.mem_cons.mp ((h x).mp (List.mem_cons_of_mem _ hx)) with e | e
      · subst e; exact absurd (h1.1 x hx) (irr x)
      · exact e
    · rcases List.mem_cons.mp ((h x).mpr (List.mem_cons_of_mem _ hx)) with e | e
      · subst e; exact absurd (h2.1 x hx) (irr x)
      · exact e
