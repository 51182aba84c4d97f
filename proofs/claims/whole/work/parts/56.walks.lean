/-! Layer C: the reference's walk -/
def MgR (D : Dt) (B : BSt) (inf : Nat → Bool) (vs : Nat → Int32) (sup : Sup) (V : List (Nat × Nat)) (r : Mem) : Prop :=
  dat r = D ∧ 82 ≤ mC r ∧ mI r 1554 0 = nj D.2.1 ∧ (∀ k, k < D.2.1 → aI r 52 k = tI (inf k)) ∧ (∀ k, k < D.2.1 → RowsR r k (B.1 k)) ∧ (∀ j, j < 12 → aI r 50 j = vs j) ∧ mI r 1625 0 = nj V.length ∧ (∀ i v, V[i]? = some v → aI r 59 i = nj (64 * v.1 + v.2)) ∧
  (sup = none → mI r 1622 0 = -1) ∧ ∀ s, sup = some s → s.1 < D.2.1 ∧ mI r 1622 0 = nj s.1 ∧ mI r 1623 0 = s.2.1 ∧ mI r 1624 0 = s.2.2
def wkF : List Nat := [1610, 1625]
def wkA : List Nat := [51, 59]
/-- the last award of that NAME in force, among the first i -/
def wk (D : Dt) (inf : Nat → Bool) (nm : Int32) (i : Nat) : Option Nat := match awd D nm with
  | some a => if a < i ∧ inf a = true then some a else none
  | none => none
section Wr
variable {r : Mem} {D : Dt} {nc : Nat} {B : BSt} {inf : Nat → Bool} {vs : Nat → Int32} {sup : Sup} {V : List (Nat × Nat)}
theorem MgR.Ch {F A : List Nat} {r' : Mem} (h : MgR D B inf vs sup V r) (c : Ch F A nil r r') (hF : (F.all fun f => f == 1610) = true) (hA : (A.all fun a => a == 51) = true) (hC : mC r' = mC r) : MgR D B inf vs sup V r' := by
  obtain ⟨h1, h2, h3, h4, h5, h6, h7, h8, h9, h10⟩ := h
  have f1 : ∀ f, f ≠ 1610 → mI r' f 0 = mI r f 0 := fun f hf => c.i (fun q => by
    have := List.all_eq_true.mp hF f q
    simp at this
    omega) (by omega)
  have a1 : ∀ a, a ≠ 51 → a < 82 → aI r' a = aI r a := fun a ha hl => c.ai (fun q => by
    have := List.all_eq_true.mp hA a q
    simp at this
    omega) nil_no (by omega)
  have hd : dat r' = D := by
    rw [← h1]
    refine dat_Ch c h2 ?_ ?_
    · rw [List.all_eq_true] at hF ⊢
      intro f hf
      have := hF f hf
      simp at this
      subst this
      decide
    · rw [List.all_eq_true] at hA ⊢
      intro f hf
      have := hA f hf
      simp at this
      subst this
      decide
  unfold MgR RowsR
  rw [f1 1554 (by omega), f1 1625 (by omega), f1 1622 (by omega), f1 1623 (by omega), f1 1624 (by omega), a1 52 (by omega) (by omega), a1 53 (by omega) (by omega), a1 54 (by omega) (by omega), a1 55 (by omega) (by omega), a1 56 (by omega) (by omega), a1 57 (by omega) (by omega), a1 50 (by omega) (by omega), a1 59 (by omega) (by omega), hC]
  exact ⟨hd, h2, h3, h4, h5, h6, h7, h8, h9, h10⟩
theorem R_isCome_2_e (hV : ∀ v, v ∈ V → v.1 < 24 ∧ v.2 < 60) (hl : V.length ≤ 1440) (h1 : mI r 1625 0 = nj V.length) (h2 : ∀ i v, V[i]? = some v → aI r 59 i = nj (64 * v.1 + v.2)) {k j : Nat} (hk : k < 24) (hj : j < 60) : ∀ (e i fu : Nat), i + e = V.length → e < fu → R_isCome_2 fu (nj (64 * k + j)) (nj i) r = some (tI (decide ((k, j) ∈ V.drop i)), r)
  | 0, i, fu + 1, hi, _ => by
    rw [R_isCome_2.eq_2, h1, if_pos (by rw [nj_le (by omega) (by omega)]; omega), List.drop_of_length_le (by omega)]
    rfl
  | e + 1, i, fu + 1, hi, hf => by
    have ih := R_isCome_2_e hV hl h1 h2 hk hj e (i + 1) fu (by omega) (by omega)
    have hv : V[i]? = some (V[i]'(by omega)) := List.getElem?_eq_getElem (by omega)
    have hm := hV _ (List.mem_of_getElem? hv)
    rw [R_isCome_2.eq_2, h1, if_neg (by rw [nj_le (by omega) (by omega)]; omega), inb_nj (by omega), gd_t (decide_eq_true (by omega)), ix_nj (by omega), h2 i _ hv, List.drop_eq_getElem_cons (show i < V.length by omega)]
    generalize V[i]'(by omega) = v at *
    by_cases q : 64 * v.1 + v.2 = 64 * k + j
    · have : v = (k, j) := Prod.ext (by show v.1 = k; omega) (by show v.2 = j; omega)
      rw [if_pos (by rw [q]), this]
      simp [tI]
    · rw [if_neg (fun e => q ((nj_inj (by omega) (by omega)).mp e)), vb_e, nj_add_l, ih]
      have : ¬ (k, j) = v := fun e => q (by rw [← e])
      simp [this]
theorem R_isCome_e (hV : ∀ v, v ∈ V → v.1 < 24 ∧ v.2 < 60) (hl : V.length ≤ 1440) (h1 : mI r 1625 0 = nj V.length) (h2 : ∀ i v, V[i]? = some v → aI r 59 i = nj (64 * v.1 + v.2)) {k j : Nat} (hk : k < 24) (hj : j < 60) : R_isCome (nj (64 * k + j)) r = some (tI (decide ((k, j) ∈ V)), r) :=
  R_isCome_2_e hV hl h1 h2 hk hj V.length 0 FU (by omega) (by unfold FU; omega)
theorem R_164_e (W : WText D nc) (M : MgR D B inf vs sup V r) (k9 : Int32 → Int32 → Mem → Option (Int32 × Mem)) {it : Nat} (hi : it < 30 * D.2.1) {x : Int32} : ∀ (e i fu : Nat), i + e = D.2.1 → e < fu → R_marginOf_164 k9 fu x (nj it) (jo (wk D inf (D.1 19 it) i)) (nj i) r = R_marginOf_220 k9 x (nj it) (jo (wk D inf (D.1 19 it) D.2.1)) r
  | 0, i, fu + 1, he, _ => by
    have h24 := W.1
    rw [R_marginOf_164.eq_2, M.2.2.1, if_pos (by rw [nj_le (by omega) (by omega)]; omega)]
    rw [show i = D.2.1 by omega]
  | e + 1, i, fu + 1, he, hf => by
    have h24 := W.1
    have ih := R_164_e W M k9 hi (x := x) e (i + 1) fu (by omega) (by omega)
    have h2 : i < D.2.1 := by omega
    have g1 : ∀ {β : Type} (c : Option β), gd (inb (nj i) 25) c = c := fun c => by rw [inb_nj (by omega), gd_t (decide_eq_true (by omega))]
    have g2 : ∀ {β : Type} (c : Option β), gd (inb (nj i) 24) c = c := fun c => by rw [inb_nj (by omega), gd_t (decide_eq_true (by omega))]
    have g3 : ∀ {β : Type} (c : Option β), gd (inb (nj it) 750) c = c := fun c => by rw [inb_nj (by omega), gd_t (decide_eq_true (by omega))]
    rw [R_marginOf_164.eq_2, M.2.2.1, if_neg (by rw [nj_le (by omega) (by omega)]; omega)]
    simp only [g1, g2, g3, ix_nj (show i < 2147483648 by omega), ix_nj (show it < 2147483648 by omega)]
    rw [dat_t M.1 (x := 8) (by omega) h2, dat_t M.1 (x := 9) (by omega) h2, M.2.2.2.1 i h2, dat_15 M.1 (x := 19) (by omega) hi]
    unfold R_marginOf_214
    rw [vb_e, nj_add_l]
    by_cases q : D.1 8 i = 0 ∧ D.1 9 i = D.1 19 it ∧ inf i = true
    · have e1 : wk D inf (D.1 19 it) (i + 1) = some i := by
        unfold wk
        rw [(awd_iff W).mpr ⟨h2, q.1, q.2.1⟩]
        exact if_pos ⟨by omega, q.2.2⟩
      rw [e1] at ih
      rw [if_pos q.1, q.2.2, if_neg (by decide), if_pos q.2.1]
      exact ih
    · have e1 : wk D inf (D.1 19 it) (i + 1) = wk D inf (D.1 19 it) i := by
        unfold wk
        cases ca : awd D (D.1 19 it) with
        | none => rfl
        | some a =>
          obtain ⟨a1, a2, a3⟩ := (awd_iff W).mp ca
          show (if a < i + 1 ∧ inf a = true then some a else none) = if a < i ∧ inf a = true then some a else none
          by_cases c : a = i
          · subst c
            have : inf a ≠ true := fun z => q ⟨a2, a3, z⟩
            rw [if_neg (fun z => this z.2), if_neg (fun z => this z.2)]
          · by_cases c2 : a < i ∧ inf a = true
            · rw [if_pos c2, if_pos ⟨by omega, c2.2⟩]
            · rw [if_neg c2, if_neg (fun z => c2 ⟨by omega, z.2⟩)]
      rw [e1] at ih
      by_cases c1 : D.1 8 i = 0
      · rw [if_pos c1]
        cases c2 : inf i with
        | false => exact ih
        | true =>
          rw [if_neg (by decide), if_neg (fun z => q ⟨c1, z, c2⟩)]
          exact ih
      · rw [if_neg c1]
        exact ih
theorem nxt_wk (W : WText D nc) {it : Nat} (q : D.1 15 it = 2 ∧ D.1 18 it = 1) : nxt D B inf it = (match wk D inf (D.1 19 it) D.2.1 with
    | some k => (ent D B k (D.1 20 it)).map fun j => (k, j)
    | none => none) := by
  unfold nxt wk
  rw [if_pos q]
  cases ca : awd D (D.1 19 it) with
  | none => rfl
  | some a =>
    obtain ⟨a1, a2, a3⟩ := (awd_iff W).mp ca
    cases c : inf a with
    | false => simp [c]
    | true => simp [c, a1]
theorem R_220_e (W : WText D nc) (Wi : WItems D nc) (hn60 : nc ≤ 60) (hWB : ∀ k, k < D.2.1 → WRow D (B.1 k).1) (M : MgR D B inf vs sup V r) (k9 : Int32 → Int32 → Mem → Option (Int32 × Mem)) {it : Nat} (hi : it < 30 * D.2.1) {x : Int32} (q : D.1 15 it = 2 ∧ D.1 18 it = 1) : R_marginOf_220 k9 x (nj it) (jo (wk D inf (D.1 19 it) D.2.1)) r = k9 (match nxt D B inf it with
    | some c => nj (64 * c.1 + c.2)
    | none => -1) x r := by
  have h24 := W.1
  rw [nxt_wk W q]
  unfold R_marginOf_220 R_marginOf_243 R_marginOf_266
  cases cw : wk D inf (D.1 19 it) D.2.1 with
  | none => rw [if_pos (by rfl), if_pos rfl]
  | some a =>
    have ha : a < D.2.1 := by
      unfold wk at cw
      cases ca : awd D (D.1 19 it) with
      | none => rw [ca] at cw; cases cw
      | some b =>
        rw [ca] at cw
        change (if b < D.2.1 ∧ inf b = true then some b else none) = some a at cw
        by_cases z : b < D.2.1 ∧ inf b = true
        · rw [if_pos z] at cw; cases cw; exact z.1
        · rw [if_neg z] at cw; cases cw
    have hlen := (hWB a ha).len Wi hn60
    rw [if_neg (by show ¬ nj a = -1; rw [nj_ne_m1 (by omega)]; exact id), inb_nj (by omega), gd_t (decide_eq_true (by omega)), ix_nj (by omega), dat_15 M.1 (x := 20) (by omega) hi]
    show bn (R_rowOf (nj a) (D.1 20 it) r) _ = _
    have hIs : ∀ q, q ∈ (B.1 a).1 → q.1 < 30 * D.2.1 := fun q hq => by
      obtain ⟨y1, y2, -⟩ := isI_30 W ((hWB a ha).1 q hq).1
      omega
    rw [R_rowOf_e M.1 (by omega) (M.2.2.2.2.1 a ha) (by omega) hIs h24, bn_s]
    show _ = k9 (match (ent D B a (D.1 20 it)).map (fun j => (a, j)) with
      | some c => nj (64 * c.1 + c.2)
      | none => -1) x r
    cases cf : fnd D (D.1 20 it) (B.1 a).1 0 with
    | none =>
      have hen : ent D B a (D.1 20 it) = none := by unfold ent; rw [cf]
      rw [if_pos (by rfl), hen]
      rfl
    | some j =>
      have hen : ent D B a (D.1 20 it) = if isC D (B.1 a).1 j = true then some j else none := by unfold ent; rw [cf]
      rw [hen]
      obtain ⟨-, z, z1, z2⟩ := fnd_some cf
      rw [Nat.sub_zero] at z1
      have hj : j < (B.1 a).1.length := (List.getElem?_eq_some_iff.mp z1).1
      have hz := hIs z (List.mem_of_getElem? z1)
      show (if nj (64 * a + j) = -1 then _ else _) = _
      rw [if_neg (by rw [nj_ne_m1 (by omega)]; exact id)]
      show gd (inb (nj (64 * a + j)) 1536) (gd (inb (aI r 54 (ix (nj (64 * a + j)))) 750) (if aI r 15 (ix (aI r 54 (ix (nj (64 * a + j))))) = 2 then k9 (nj (64 * a + j)) x r else k9 (-1) x r)) = _
      rw [inb_nj (by omega), gd_t (decide_eq_true (by omega)), ix_nj (by omega), ((M.2.2.2.2.1 a ha).2.1 j z z1).1, inb_nj (by omega), gd_t (decide_eq_true (by omega)), ix_nj (by omega), dat_15 M.1 (x := 15) (by omega) hz]
      have hC : isC D (B.1 a).1 j = decide (D.1 15 z.1 = 2) := by
        unfold isC
        rw [z1]
      by_cases c2 : D.1 15 z.1 = 2
      · rw [if_pos c2]
        simp [hC, c2]
      · rw [if_neg c2]
        simp [hC, c2]
end Wr
