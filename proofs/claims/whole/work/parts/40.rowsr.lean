/-! Layer C: rows of an award or agree, in the reference -/
abbrev Row : Type := Nat × Option Nat
/-- rows, choose, round -/
abbrev RS : Type := List Row × Int32 × Int32
def fnd (D : Dt) (nm : Int32) : List Row → Nat → Option Nat
  | [], _ => none
  | q :: L, j => if D.1 16 q.1 = nm then some j else fnd D nm L (j + 1)
def jo (o : Option Nat) : Int32 := match o with
  | some i => nj i
  | none => -1
def jk (k : Nat) (o : Option Nat) : Int32 := match o with
  | some i => nj (64 * k + i)
  | none => -1
def ambS (D : Dt) (vs : Nat → Int32) (of i : Nat) : Prop := logS D of i ≠ -1 ∧ ansS D of i ≠ -1 ∧ jmin (logS D of i) (ansS D of i) ≤ valS D vs (ix (D.1 21 i)) (ix (D.1 22 i)) ∧ valS D vs (ix (D.1 21 i)) (ix (D.1 22 i)) ≤ jmax (logS D of i) (ansS D of i)
def isC (D : Dt) (L : List Row) (j : Nat) : Bool := match L[j]? with
  | some q => decide (D.1 15 q.1 = 2)
  | none => false
def mgA (L : List Row) (j i : Nat) : List Row := match L[j]? with
  | some q => L.set j (q.1, some i)
  | none => L
/-- an ITEM i of the TEXT 'of' is done: rows, choose, round; its fate -/
noncomputable def apI (D : Dt) (vs : Nat → Int32) (of i : Nat) (S : RS) : RS × Int32 :=
  if D.1 15 i = 2 ∨ D.1 15 i = 4 ∨ D.1 15 i = 5 then ((match fnd D (D.1 16 i) S.1 0 with
    | some j => (S.1.set j (i, none), S.2)
    | none => (S.1 ++ [(i, none)], S.2)), 0)
  else if D.1 15 i = 3 then ((S.1, D.1 17 i, S.2.2), 0)
  else if D.1 15 i = 6 then ((S.1, S.2.1, D.1 17 i), 0)
  else if D.1 15 i = 7 then (match fnd D (D.1 16 i) S.1 0 with
    | some j => ((S.1.eraseIdx j, S.2), 0)
    | none => (S, 2))
  else if D.1 15 i = 8 then (match fnd D (D.1 16 i) S.1 0 with
    | some j => if isC D S.1 j = true then (if jmin (logS D of i) (ansS D of i) ≤ valS D vs (ix (D.1 21 i)) (ix (D.1 22 i)) ∧ valS D vs (ix (D.1 21 i)) (ix (D.1 22 i)) ≤ jmax (logS D of i) (ansS D of i) ∧ logS D of i ≠ -1 ∧ ansS D of i ≠ -1 then ((mgA S.1 j i, S.2), 0) else (S, 3)) else (S, 2)
    | none => (S, 2))
  else (S, 0)
noncomputable def stS (D : Dt) (vs : Nat → Int32) (of : Nat) (S0 : RS) : Nat → RS
  | 0 => S0
  | j + 1 => (apI D vs of (30 * of + j) (stS D vs of S0 j)).1
noncomputable def ftS (D : Dt) (vs : Nat → Int32) (of : Nat) (S0 : RS) (j : Nat) : Int32 := (apI D vs of (30 * of + j) (stS D vs of S0 j)).2
def isI (D : Dt) (i : Nat) : Prop := ∃ k j, k < D.2.1 ∧ j < ix (D.1 14 k) ∧ i = 30 * k + j
/-- rows hold classes, loads and extras, each NAME once -/
def WRow (D : Dt) (L : List Row) : Prop := (∀ q, q ∈ L → isI D q.1 ∧ (D.1 15 q.1 = 2 ∨ D.1 15 q.1 = 4 ∨ D.1 15 q.1 = 5) ∧ ∀ i, q.2 = some i → isI D i ∧ D.1 15 i = 8 ∧ D.1 15 q.1 = 2) ∧ (L.map fun q => D.1 16 q.1).Nodup
section Fn
variable {D : Dt} {nm : Int32}
theorem fnd_some : ∀ {L : List Row} {j i : Nat}, fnd D nm L j = some i → j ≤ i ∧ ∃ q, L[i - j]? = some q ∧ D.1 16 q.1 = nm
  | [], _, _, h => by cases h
  | q :: L, j, i, h => by
    unfold fnd at h
    by_cases c : D.1 16 q.1 = nm
    · rw [if_pos c] at h
      cases h
      exact ⟨Nat.le_refl _, q, by simp, c⟩
    · rw [if_neg c] at h
      obtain ⟨h1, q', h2, h3⟩ := fnd_some h
      refine ⟨by omega, q', ?_, h3⟩
      rw [show i - j = (i - (j + 1)) + 1 by omega]
      exact h2
theorem fnd_none : ∀ {L : List Row} {j : Nat}, fnd D nm L j = none → ∀ q, q ∈ L → D.1 16 q.1 ≠ nm
  | [], _, _, _, hq => by cases hq
  | q :: L, j, h, q', hq => by
    unfold fnd at h
    by_cases c : D.1 16 q.1 = nm
    · rw [if_pos c] at h; cases h
    · rw [if_neg c] at h
      rcases List.mem_cons.mp hq with e | e
      · subst e; exact c
      · exact fnd_none h q' e
theorem nm_of {nc i : Nat} (W : WItems D nc) (h : isI D i) (hs : D.1 15 i = 2 ∨ D.1 15 i = 4 ∨ D.1 15 i = 5) : ∃ u, u < nc ∧ D.1 16 i = nj u := by
  obtain ⟨k, j, hk, hj, rfl⟩ := h
  obtain ⟨s, s1, s2, -, -, s5, -⟩ := W k j hk hj
  refine s5 ?_
  clear s5
  rcases hs with h | h | h <;> (rw [s2, nj_eq_l (by omega) (by omega)] at h; subst h; simp)
theorem isI_lt {i : Nat} (h24 : D.2.1 ≤ 24) (h30 : ∀ k, k < D.2.1 → ix (D.1 14 k) ≤ 30) (h : isI D i) : i < 30 * D.2.1 := by
  obtain ⟨k, j, hk, hj, rfl⟩ := h
  have := h30 k hk
  omega
theorem WRow.len {nc : Nat} {L : List Row} (h : WRow D L) (W : WItems D nc) (hn : nc ≤ 60) : L.length ≤ 60 := by
  have h1 : (L.map fun q => ix (D.1 16 q.1)).Nodup := by
    have h2 := h.2
    unfold List.Nodup at h2 ⊢
    rw [List.pairwise_map] at h2 ⊢
    refine h2.imp_of_mem fun {a b} ha hb hab e => hab ?_
    obtain ⟨u, hu, eu⟩ := nm_of W (h.1 a ha).1 (h.1 a ha).2.1
    obtain ⟨w, hw, ew⟩ := nm_of W (h.1 b hb).1 (h.1 b hb).2.1
    rw [eu, ew, ix_nj (by omega), ix_nj (by omega)] at e
    rw [eu, ew, e]
  have := pigeon 60 _ h1 (fun x hx => by
    obtain ⟨q, hq, rfl⟩ := List.mem_map.mp hx
    obtain ⟨u, hu, eu⟩ := nm_of W (h.1 q hq).1 (h.1 q hq).2.1
    rw [eu, ix_nj (by omega)]
    omega)
  rw [List.length_map] at this
  exact this
theorem map_set {L : List Row} {j : Nat} {q x : Row} (hq : L[j]? = some q) (hn : D.1 16 x.1 = D.1 16 q.1) : ((L.set j x).map fun q => D.1 16 q.1) = L.map fun q => D.1 16 q.1 := by
  apply List.ext_getElem?
  intro i
  rw [List.getElem?_map, List.getElem?_map, List.getElem?_set]
  by_cases c : j = i
  · subst c
    rw [if_pos rfl, hq]
    have : j < L.length := by
      rw [List.getElem?_eq_some_iff] at hq
      exact hq.1
    rw [if_pos this]
    exact congrArg some hn
  · rw [if_neg c]
theorem WRow.put {L : List Row} {i : Nat} (h : WRow D L) (hi : isI D i) (hs : D.1 15 i = 2 ∨ D.1 15 i = 4 ∨ D.1 15 i = 5) : WRow D (match fnd D (D.1 16 i) L 0 with
    | some j => L.set j (i, none)
    | none => L ++ [(i, none)]) := by
  cases c : fnd D (D.1 16 i) L 0 with
  | some j =>
    obtain ⟨-, q, hq, hn⟩ := fnd_some c
    refine ⟨fun x hx => ?_, ?_⟩
    · rcases List.mem_or_eq_of_mem_set hx with e | e
      · exact h.1 x e
      · subst e; exact ⟨hi, hs, fun _ h => by cases h⟩
    · show ((L.set j (i, none)).map fun q : Row => D.1 16 q.1).Nodup
      rw [Nat.sub_zero] at hq
      rw [map_set hq hn.symm]; exact h.2
  | none =>
    refine ⟨fun x hx => ?_, ?_⟩
    · rcases List.mem_append.mp hx with e | e
      · exact h.1 x e
      · rw [List.mem_singleton] at e
        subst e; exact ⟨hi, hs, fun _ h => by cases h⟩
    · show ((L ++ [(i, none)]).map fun q : Row => D.1 16 q.1).Nodup
      rw [List.map_append, List.nodup_append]
      refine ⟨h.2, by simp, fun a ha b hb => ?_⟩
      obtain ⟨q, hq, rfl⟩ := List.mem_map.mp ha
      simp at hb
      subst hb
      exact fnd_none c q hq
theorem WRow.erase {L : List Row} {j : Nat} (h : WRow D L) : WRow D (L.eraseIdx j) := by
  refine ⟨fun x hx => h.1 x (List.mem_of_mem_eraseIdx hx), ?_⟩
  exact h.2.sublist ((List.eraseIdx_sublist L j).map _)
theorem WRow.mg {L : List Row} {j i : Nat} (h : WRow D L) (hc : isC D L j = true) (hi : isI D i) (hs : D.1 15 i = 8) : WRow D (mgA L j i) := by
  unfold mgA
  unfold isC at hc
  cases c : L[j]? with
  | none => rw [c] at hc; cases hc
  | some q =>
    rw [c] at hc
    have hc' : D.1 15 q.1 = 2 := of_decide_eq_true hc
    have hm : q ∈ L := List.mem_of_getElem? c
    refine ⟨fun x hx => ?_, ?_⟩
    · rcases List.mem_or_eq_of_mem_set hx with e | e
      · exact h.1 x e
      · subst e
        exact ⟨(h.1 q hm).1, (h.1 q hm).2.1, fun i' h' => by cases h'; exact ⟨hi, hs, hc'⟩⟩
    · show ((L.set j (q.1, some i)).map fun q : Row => D.1 16 q.1).Nodup
      rw [map_set (x := (q.1, some i)) c rfl]; exact h.2
theorem apI_W {vs : Nat → Int32} {of i : Nat} {S : RS} (h : WRow D S.1) (hi : isI D i) : WRow D (apI D vs of i S).1.1 := by
  unfold apI
  by_cases c1 : D.1 15 i = 2 ∨ D.1 15 i = 4 ∨ D.1 15 i = 5
  · rw [if_pos c1]
    have := h.put hi c1
    cases c : fnd D (D.1 16 i) S.1 0 with
    | some j => rw [c] at this; exact this
    | none => rw [c] at this; exact this
  · rw [if_neg c1]
    by_cases c3 : D.1 15 i = 3
    · rw [if_pos c3]; exact h
    · rw [if_neg c3]
      by_cases c6 : D.1 15 i = 6
      · rw [if_pos c6]; exact h
      · rw [if_neg c6]
        by_cases c7 : D.1 15 i = 7
        · rw [if_pos c7]
          cases c : fnd D (D.1 16 i) S.1 0 with
          | some j => exact h.erase
          | none => exact h
        · rw [if_neg c7]
          by_cases c8 : D.1 15 i = 8
          · rw [if_pos c8]
            cases c : fnd D (D.1 16 i) S.1 0 with
            | some j =>
              show WRow D (if _ then _ else _ : RS × Int32).1.1
              by_cases d : isC D S.1 j = true
              · rw [if_pos d]
                split
                · exact h.mg d hi c8
                · exact h
              · rw [if_neg d]; exact h
            | none => exact h
          · rw [if_neg c8]; exact h
end Fn
