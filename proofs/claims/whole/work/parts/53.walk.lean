/-! Layer C: margins that follow other awards; the class's walk -/
def awd (D : Dt) (nm : Int32) : Option Nat := (List.range D.2.1).find? fun k => decide (D.1 8 k = 0) && decide (D.1 9 k = nm)
def ent (D : Dt) (B : BSt) (k : Nat) (nm : Int32) : Option Nat := match fnd D nm (B.1 k).1 0 with
  | some j => if isC D (B.1 k).1 j = true then some j else none
  | none => none
/-- the row that an ITEM follows -/
def nxt (D : Dt) (B : BSt) (inf : Nat → Bool) (i : Nat) : Option (Nat × Nat) :=
  if D.1 15 i = 2 ∧ D.1 18 i = 1 then (match awd D (D.1 19 i) with
    | some k => if inf k then (ent D B k (D.1 20 i)).map fun j => (k, j) else none
    | none => none)
  else none
/-- an award's class whose margin is supposed -/
abbrev Sup := Option (Nat × Int32 × Int32)
def isS (D : Dt) (sup : Sup) (k i : Nat) : Option Int32 := match sup with
  | some s => if s.1 = k ∧ D.1 16 i = s.2.1 then some s.2.2 else none
  | none => none
noncomputable def mgW (D : Dt) (B : BSt) (inf : Nat → Bool) (vs : Nat → Int32) (sup : Sup) : Nat → List (Nat × Nat) → Nat → Nat → Int32 → Int32
  | 0, _, _, _, x => x
  | g + 1, V, k, j, x => if (k, j) ∈ V then x else match (B.1 k).1[j]? with
    | none => x
    | some z => match isS D sup k z.1 with
      | some v => x + v
      | none => match nxt D B inf (z.2.getD z.1) with
        | none => x + valS D vs (ix (D.1 21 (z.2.getD z.1))) (ix (D.1 22 (z.2.getD z.1)))
        | some c => mgW D B inf vs sup g (V ++ [(k, j)]) c.1 c.2 (x + valS D vs (ix (D.1 21 (z.2.getD z.1))) (ix (D.1 22 (z.2.getD z.1))))
def hld (x : Int32) : Int32 := jmax (-9999) (jmin 9999 x)
def dy3 (ta : Nat → Nat) (tc : Nat) : Nat → Prop := fun a => ∃ k, k < tc ∧ a = ta k + 3
/-- what the class's walk finds -/
def MgP (ta ia : Nat → Nat) (D : Dt) (B : BSt) (inf : Nat → Bool) (vs : Nat → Int32) (sup : Sup) (V : List (Nat × Nat)) (p : Mem) : Prop :=
  (∀ k, k < D.2.1 → mI p 1287 (ta k) = tI (inf k)) ∧ (∀ k, k < D.2.1 → inf k = true → isW D k = true → RowsP ta ia p k (B.1 k)) ∧ (∀ j, j < 12 → aI p 27 j = vs j) ∧
  (∀ k j, k < D.2.1 → (aI p (ta k + 3) j = mI p 1157 25 ↔ (k, j) ∈ V)) ∧ mR p 1158 25 = sup.map (fun s => ta s.1) ∧ ∀ s, sup = some s → s.1 < D.2.1 ∧ mI p 1159 25 = s.2.1 ∧ mI p 1160 25 = s.2.2
section Wa
variable {fa ta ia sa ca : Nat → Nat} {od : List Nat} {p : Mem} {D : Dt} {nc : Nat} {B : BSt} {inf : Nat → Bool} {vs : Nat → Int32} {sup : Sup}
theorem awd_iff (W : WText D nc) {nm : Int32} {a : Nat} : awd D nm = some a ↔ a < D.2.1 ∧ D.1 8 a = 0 ∧ D.1 9 a = nm := by
  constructor
  · intro h
    have h1 := List.find?_some h
    have h2 := List.mem_of_find?_eq_some h
    simp only [Bool.and_eq_true, decide_eq_true_eq] at h1
    exact ⟨List.mem_range.mp h2, h1.1, h1.2⟩
  · rintro ⟨h1, h2, h3⟩
    cases e : awd D nm with
    | none =>
      have := List.find?_eq_none.mp e a (List.mem_range.mpr h1)
      simp [h2, h3] at this
    | some b =>
      have g1 := List.find?_some e
      have g2 := List.mem_of_find?_eq_some e
      simp only [Bool.and_eq_true, decide_eq_true_eq] at g1
      rw [W.2.2.2.2 b a (List.mem_range.mp g2) h1 g1.1 h2 (g1.2.trans h3.symm)]
theorem awd_none {nm : Int32} (h : awd D nm = none) {a : Nat} (ha : a < D.2.1) (h8 : D.1 8 a = 0) : D.1 9 a ≠ nm := fun e => by
  have := List.find?_eq_none.mp h a (List.mem_range.mpr ha)
  simp [h8, e] at this
theorem P_awardNamed_2_e (L : Lk fa ta ia sa ca od p D) (W : WText D nc) {nm : Int32} : ∀ (e i fu : Nat), i + e = D.2.1 → e < fu → (∀ x k, x < i → od[x]? = some k → awd D nm ≠ some k) → P_Ledger_awardNamed_2 fu nm (nj i) p = some ((awd D nm).map ta, p)
  | 0, i, fu + 1, hi, _, hn => by
    have h24 := W.1
    rw [P_Ledger_awardNamed_2.eq_2, L.2.1.1, if_pos (by rw [nj_le (by omega) (by omega)]; omega)]
    cases c : awd D nm with
    | none => rfl
    | some a =>
      obtain ⟨c1, -⟩ := (awd_iff W).mp c
      obtain ⟨x, hx⟩ := List.getElem?_of_mem ((L.2.2.1.2.2.1 a).mpr c1)
      have hl : x < od.length := (List.getElem?_eq_some_iff.mp hx).1
      rw [L.2.2.1.1] at hl
      exact absurd c (hn x a (by omega) hx)
  | e + 1, i, fu + 1, hi, hf, hn => by
    have h24 := W.1
    obtain ⟨k, k1, k2, k3⟩ := od_get L (i := i) (by omega)
    obtain ⟨-, t2, t3, -, t5, -⟩ := L.2.1.2.1 k k2
    have ih := fun h => P_awardNamed_2_e L W (nm := nm) e (i + 1) fu (by omega) (by omega) h
    have g : ∀ {β : Type} (c : Option β), gd (inb (nj i) 24) c = c := fun c => by rw [inb_nj (by omega), gd_t (decide_eq_true (by omega))]
    rw [P_Ledger_awardNamed_2.eq_2, L.2.1.1, if_neg (by rw [nj_le (by omega) (by omega)]; omega), g, ix_nj (by omega), k3, gs_s, gt_t t2, t3, g, gs_s, gt_t t2, t5]
    unfold P_Ledger_awardNamed_42 P_Ledger_awardNamed_35
    rw [vb_e, nj_add_l, g, ix_nj (by omega), k3]
    by_cases c1 : D.1 8 k = 0 ∧ D.1 9 k = nm
    · rw [if_pos c1.1, if_pos c1.2, (awd_iff W).mpr ⟨k2, c1.1, c1.2⟩]
      rfl
    · have ih' := ih (fun x l hx hl => by
        by_cases q : x = i
        · subst q
          rw [k1] at hl
          cases hl
          intro z
          exact c1 ((awd_iff W).mp z).2
        · exact hn x l (by omega) hl)
      by_cases c2 : D.1 8 k = 0
      · rw [if_pos c2, if_neg (fun z => c1 ⟨c2, z⟩)]; exact ih'
      · rw [if_neg c2]; exact ih'
theorem P_awardNamed_e (L : Lk fa ta ia sa ca od p D) (W : WText D nc) (nm : Int32) : P_Ledger_awardNamed nm p = some ((awd D nm).map ta, p) := by
  have h24 := W.1
  unfold P_Ledger_awardNamed
  exact P_awardNamed_2_e L W D.2.1 0 FU (by omega) (by unfold FU; omega) (fun _ _ h => absurd h (by omega))
theorem dy3_T (L : LText ta ia p D) : ∀ a, dy3 ta D.2.1 a → dyT ta D.2.1 a := fun a ⟨k, hk, h⟩ => ⟨k, hk, by omega⟩
/-- the walk's frame keeps rows and variables -/
theorem MgP.Ch {V V' : List (Nat × Nat)} {p' : Mem} {A : List Nat} (h : MgP ta ia D B inf vs sup V p) (L : Lk fa ta ia sa ca od p D) (T : Top p) (c : Ch [] A (dy3 ta D.2.1) p p') (hA : (A.all fun a => a < 27) = true) (hV : ∀ k j, k < D.2.1 → (aI p' (ta k + 3) j = mI p 1157 25 ↔ (k, j) ∈ V')) : MgP ta ia D B inf vs sup V' p' := by
  have T1 := T.1
  have hA' : ∀ a, 27 ≤ a → a ∉ A := fun a ha q => by
    have := List.all_eq_true.mp hA a q
    simp at this
    omega
  obtain ⟨h1, h2, h3, h4, h5, h6⟩ := h
  have n27 : ¬ dy3 ta D.2.1 27 := fun ⟨k, hk, e⟩ => by have := (L.2.1.2.1 k hk).1; omega
  refine ⟨fun k hk => ?_, fun k hk a b => ?_, fun j hj => ?_, fun k j hk => ?_, ?_, fun s hs => ?_⟩
  · have lk : ta k < mC p := T.lt (by rw [(L.2.1.2.1 k hk).2.1]; decide)
    rw [c.i List.not_mem_nil lk]; exact h1 k hk
  · obtain ⟨q1, q2, q3, q4⟩ := h2 k hk a b
    obtain ⟨u1, u2, -, -, -, -, -, -, -, -, -, -, -, -, -, -, u17, u18, -⟩ := L.2.1.2.1 k hk
    have l0 : ta k < mC p := T.lt (by rw [u2]; decide)
    have l1 : ta k + 1 < mC p := T.lt (by rw [u17]; decide)
    have l2 : ta k + 2 < mC p := T.lt (by rw [u18]; decide)
    have nd : ∀ a, mT p a = 36 → ¬ dy3 ta D.2.1 a := fun a ht ⟨l, hl, e⟩ => by
      obtain ⟨-, -, -, -, -, -, -, -, -, -, -, -, -, -, -, -, -, -, v19, -⟩ := L.2.1.2.1 l hl
      rw [e, v19] at ht
      exact absurd ht (by decide)
    refine ⟨by rw [c.i List.not_mem_nil l0]; exact q1, fun j q hq => ?_, by rw [c.i List.not_mem_nil l0]; exact q3, by rw [c.i List.not_mem_nil l0]; exact q4⟩
    rw [c.ar (hA' _ (by omega)) (nd _ u17) l1, c.ar (hA' _ (by omega)) (nd _ u18) l2]
    exact q2 j q hq
  · rw [c.ai (hA' 27 (by omega)) n27 (by omega)]; exact h3 j hj
  · rw [c.i List.not_mem_nil (by omega)]; exact hV k j hk
  · rw [c.r List.not_mem_nil (by omega)]; exact h5
  · rw [c.i List.not_mem_nil (by omega), c.i List.not_mem_nil (by omega)]; exact h6 s hs
theorem ent_some {k j : Nat} {nm : Int32} (h : ent D B k nm = some j) : ∃ z, (B.1 k).1[j]? = some z ∧ D.1 15 z.1 = 2 ∧ D.1 16 z.1 = nm := by
  unfold ent at h
  cases c : fnd D nm (B.1 k).1 0 with
  | none => rw [c] at h; cases h
  | some i =>
    rw [c] at h
    change (if isC D (B.1 k).1 i = true then some i else none) = some j at h
    by_cases q : isC D (B.1 k).1 i = true
    · rw [if_pos q] at h
      cases h
      obtain ⟨-, z, z1, z2⟩ := fnd_some c
      rw [Nat.sub_zero] at z1
      refine ⟨z, z1, ?_, z2⟩
      unfold isC at q
      rw [z1] at q
      exact of_decide_eq_true q
    · rw [if_neg q] at h; cases h
/-- distinct rows of TEXTS are few -/
theorem few {V : List (Nat × Nat)} (h24 : D.2.1 ≤ 24) (hd : V.Nodup) (hV : ∀ v, v ∈ V → v.1 < D.2.1 ∧ v.2 < 60) : V.length ≤ 1440 := by
  have h1 := pigeon 1440 (V.map fun v => 60 * v.1 + v.2) (by
    unfold List.Nodup at hd ⊢
    rw [List.pairwise_map]
    refine hd.imp_of_mem fun {a b} ha hb hab e => hab ?_
    have := hV a ha
    have := hV b hb
    exact Prod.ext (by omega) (by omega)) (fun x hx => by
    obtain ⟨v, hv, rfl⟩ := List.mem_map.mp hx
    have := hV v hv
    omega)
  rw [List.length_map] at h1
  exact h1
end Wa
