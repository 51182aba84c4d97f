/-! Layer C: choose and round keep within their bounds -/
def okS (S : RS) : Prop := (S.2.1 = 0 ∨ S.2.1 = 1 ∨ S.2.1 = 2) ∧ ∃ c, 1 ≤ c ∧ c ≤ 240 ∧ S.2.2 = nj c
section Ok
variable {D : Dt} {nc : Nat} {vs : Nat → Int32} {inf : Nat → Bool}
theorem ini_ok : okS ini := ⟨Or.inl rfl, 1, by omega, by omega, rfl⟩
theorem apI_ok (Wi : WItems D nc) {of i : Nat} {S : RS} (h : okS S) (hi : isI D i) : okS (apI D vs of i S).1 := by
  obtain ⟨k, j, hk, hj, rfl⟩ := hi
  obtain ⟨s, s1, s2, -, -, -, -, -, s3, s6, -⟩ := Wi k j hk hj
  unfold apI
  by_cases c1 : D.1 15 (30 * k + j) = 2 ∨ D.1 15 (30 * k + j) = 4 ∨ D.1 15 (30 * k + j) = 5
  · rw [if_pos c1]
    cases c : fnd D (D.1 16 (30 * k + j)) S.1 0 with
    | some j => exact h
    | none => exact h
  · rw [if_neg c1]
    by_cases c3 : D.1 15 (30 * k + j) = 3
    · rw [if_pos c3]
      obtain ⟨c, hc, e⟩ := s3 ((nj_inj (b := 3) (by omega) (by omega)).mp (s2.symm.trans c3))
      refine ⟨?_, h.2⟩
      show D.1 17 (30 * k + j) = 0 ∨ D.1 17 (30 * k + j) = 1 ∨ D.1 17 (30 * k + j) = 2
      rw [e]
      have : c = 0 ∨ c = 1 ∨ c = 2 := by omega
      rcases this with rfl | rfl | rfl
      · exact Or.inl rfl
      · exact Or.inr (Or.inl rfl)
      · exact Or.inr (Or.inr rfl)
    · rw [if_neg c3]
      by_cases c6 : D.1 15 (30 * k + j) = 6
      · rw [if_pos c6]
        exact ⟨h.1, s6 ((nj_inj (b := 6) (by omega) (by omega)).mp (s2.symm.trans c6))⟩
      · rw [if_neg c6]
        by_cases c7 : D.1 15 (30 * k + j) = 7
        · rw [if_pos c7]
          cases c : fnd D (D.1 16 (30 * k + j)) S.1 0 with
          | some j => exact h
          | none => exact h
        · rw [if_neg c7]
          by_cases c8 : D.1 15 (30 * k + j) = 8
          · rw [if_pos c8]
            cases c : fnd D (D.1 16 (30 * k + j)) S.1 0 with
            | some j' =>
              show okS (if _ then _ else _ : RS × Int32).1
              by_cases d : isC D S.1 j' = true
              · rw [if_pos d]
                split
                · exact h
                · exact h
              · rw [if_neg d]; exact h
            | none => exact h
          · rw [if_neg c8]; exact h
theorem stS_ok (Wi : WItems D nc) {of : Nat} {S0 : RS} (h0 : okS S0) (hof : of < D.2.1) : ∀ j, j ≤ ix (D.1 14 of) → okS (stS D vs of S0 j)
  | 0, _ => h0
  | j + 1, h => apI_ok Wi (stS_ok Wi h0 hof j (by omega)) ⟨of, j, hof, by omega, rfl⟩
theorem bW_ok (Wi : WItems D nc) {k : Nat} (hk : k < D.2.1) : okS ((bW D vs inf).1 k) := by
  unfold bW
  show okS (if (inf k && isW D k) = true then _ else _ : RS)
  by_cases c : (inf k && isW D k) = true
  · rw [if_pos c]; exact stS_ok Wi ini_ok hk _ (Nat.le_refl _)
  · rw [if_neg c]; exact ini_ok
theorem bVs_ok (Wi : WItems D nc) (h13 : ∀ t, t < D.2.1 → ix (D.1 13 t) < D.2.1) : ∀ (l : List Nat) (B : BSt), (∀ t, t ∈ l → t < D.2.1) → (∀ k, k < D.2.1 → okS (B.1 k)) → ∀ k, k < D.2.1 → okS ((l.foldl (bV D vs) B).1 k)
  | [], _, _, h, k, hk => h k hk
  | t :: l, B, hl, h, k, hk => by
    have ht := hl t (by simp)
    refine bVs_ok Wi h13 l (bV D vs B t) (fun x hx => hl x (by simp [hx])) (fun k hk => ?_) k hk
    unfold bV
    show okS (up1 B.1 (ix (D.1 13 t)) _ k)
    rw [up1_ap]
    by_cases c : k = ix (D.1 13 t)
    · rw [if_pos c]; exact stS_ok Wi (h _ (h13 t ht)) ht _ (Nat.le_refl _)
    · rw [if_neg c]; exact h k hk
theorem bQ_ok (W : WText D nc) (Wi : WItems D nc) {d f n k : Nat} (hk : k < D.2.1) : okS ((bQ D d f n).1 k) :=
  bVs_ok Wi (fun x hx => by
    obtain ⟨q', y1, y2, -⟩ := (W.2.2.1 x hx).2.2.2.2.2.2.1
    have := W.1
    rw [y2, ix_nj (by omega)]
    omega) _ _ (fun x hx => (lst_mem (List.mem_filter.mp hx).1 (by omega)).1) (fun k hk => bW_ok Wi hk) k hk
end Ok
