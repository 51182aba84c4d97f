/-! Layer C: what outdoes an award, and its last agree, in the class -/
def wB (D : Dt) (inf : Nat → Bool) (vs : Nat → Int32) (tk : Int32) (k : Nat) : Bool := isW D k && (inf k && bdS D vs tk k)
def ogS (D : Dt) (B : Nat → Bool) (k l : Nat) : Bool := decide (l ≠ k) && (B l && ovS D (D.1 9 k) l)
section Oo
variable {fa ta ia sa ca : Nat → Nat} {od : List Nat} {p : Mem} {D : Dt} {nc : Nat} {vs : Nat → Int32} {tk : Int32} {inf B : Nat → Bool}
theorem unR_iff {k : Nat} : ∀ e l, unR D B k e l = true ↔ ∃ x, l ≤ x ∧ x < l + e ∧ ogS D B k x = true
  | 0, l => by
    constructor
    · intro h; cases h
    · rintro ⟨x, h1, h2, -⟩; omega
  | e + 1, l => by
    have ih := unR_iff (k := k) e (l + 1)
    have hs : unR D B k (e + 1) l = (ogS D B k l || unR D B k e (l + 1)) := rfl
    rw [hs, Bool.or_eq_true, ih]
    constructor
    · rintro (h | ⟨x, h1, h2, h3⟩)
      · exact ⟨l, by omega, by omega, h⟩
      · exact ⟨x, by omega, by omega, h3⟩
    · rintro ⟨x, h1, h2, h3⟩
      by_cases q : x = l
      · exact Or.inl (q ▸ h3)
      · exact Or.inr ⟨x, by omega, by omega, h3⟩
theorem unS_od (hm : ∀ k, k ∈ od ↔ k < D.2.1) {k : Nat} : od.any (ogS D B k) = unS D B k := by
  rw [Bool.eq_iff_iff, List.any_eq_true]
  unfold unS
  rw [unR_iff]
  constructor
  · rintro ⟨x, h1, h2⟩
    exact ⟨x, by omega, by have := (hm x).mp h1; omega, h2⟩
  · rintro ⟨x, h1, h2, h3⟩
    exact ⟨x, (hm x).mpr (by omega), h3⟩
theorem P_isOutdone_2_e (L : Lk fa ta ia sa ca od p D) (W : WText D nc) (Wi : WItems D nc) (hb : ∀ a, a < D.2.1 → mI p 1295 (ta a) = tI (wB D inf vs tk a)) {k : Nat} (hk : k < D.2.1) : ∀ (e i fu : Nat), i + e = D.2.1 → e < fu → P_Reckoning_isOutdone_2 fu (some (ta k)) (nj i) p = some (tI ((od.drop i).any (ogS D (aB D inf vs tk) k)), p)
  | 0, i, fu + 1, hi, _ => by
    have h24 := W.1
    rw [P_Reckoning_isOutdone_2.eq_2, L.2.1.1, if_pos (by rw [nj_le (by omega) (by omega)]; omega), List.drop_of_length_le (by rw [L.2.2.1.1]; omega)]
    rfl
  | e + 1, i, fu + 1, hi, hf => by
    have h24 := W.1
    have ih := P_isOutdone_2_e L W Wi hb hk e (i + 1) fu (by omega) (by omega)
    obtain ⟨l, l1, l2, l3⟩ := od_get L (i := i) (by omega)
    obtain ⟨-, t2, t3, -⟩ := L.2.1.2.1 l l2
    obtain ⟨-, u2, -, -, u5, -⟩ := L.2.1.2.1 k hk
    have hdrop : od.drop i = l :: od.drop (i + 1) := by
      have hil : i < od.length := by rw [L.2.2.1.1]; omega
      rw [List.drop_eq_getElem_cons hil]
      have := List.getElem?_eq_getElem hil
      rw [l1] at this
      rw [Option.some.inj this]
    have hany : (od.drop i).any (ogS D (aB D inf vs tk) k) = (ogS D (aB D inf vs tk) k l || (od.drop (i + 1)).any (ogS D (aB D inf vs tk) k)) := by rw [hdrop]; rfl
    rw [P_Reckoning_isOutdone_2.eq_2, L.2.1.1, if_neg (by rw [nj_le (by omega) (by omega)]; omega), inb_nj (by omega), gd_t (decide_eq_true (by omega)), ix_nj (by omega), l3, hany]
    unfold P_Reckoning_isOutdone_55
    simp only [vb_e, nj_add_l]
    by_cases q : l = k
    · rw [if_pos (by rw [q])]
      have : ogS D (aB D inf vs tk) k l = false := by unfold ogS; rw [decide_eq_false (fun z => z q), Bool.false_and]
      rw [this, Bool.false_or]; exact ih
    · rw [if_neg (fun z => q (ta_inj L l2 hk (Option.some.inj z))), gs_s, gt_t t2, t3, hb l l2, gs_s, gt_t u2, u5]
      rw [P_isOver_e L W Wi l2, bn_s]
      have ho : ogS D (aB D inf vs tk) k l = (aB D inf vs tk l && ovS D (D.1 9 k) l) := by unfold ogS; rw [decide_eq_true q, Bool.true_and]
      rw [ho]
      by_cases c0 : D.1 8 l = 0
      · have hwb : wB D inf vs tk l = aB D inf vs tk l := by
          unfold wB aB isW
          rw [decide_eq_true (Or.inl c0), decide_eq_true c0]
        rw [if_pos c0, hwb]
        cases c1 : aB D inf vs tk l with
        | false => rw [if_pos (by rfl), Bool.false_and, Bool.false_or]; exact ih
        | true =>
          rw [if_neg (by decide), Bool.true_and]
          cases c2 : ovS D (D.1 9 k) l with
          | true => rfl
          | false => rw [if_pos (by rfl), Bool.false_or]; exact ih
      · have : aB D inf vs tk l = false := by unfold aB; rw [decide_eq_false c0, Bool.false_and]
        rw [if_neg c0, this, Bool.false_and, Bool.false_or]; exact ih
theorem P_isOutdone_e (L : Lk fa ta ia sa ca od p D) (W : WText D nc) (Wi : WItems D nc) (hb : ∀ a, a < D.2.1 → mI p 1295 (ta a) = tI (wB D inf vs tk a)) {k : Nat} (hk : k < D.2.1) : P_Reckoning_isOutdone (some (ta k)) p = some (tI (unS D (aB D inf vs tk) k), p) := by
  have h24 := W.1
  have := P_isOutdone_2_e L W Wi hb hk D.2.1 0 FU (by omega) (by unfold FU; omega)
  rw [List.drop_zero, unS_od L.2.2.1.2.2.1] at this
  exact this
theorem lsF_snoc {P : Nat → Bool} {l : List Nat} {x : Nat} : lsF P (l ++ [x]) = if P x then some x else lsF P l := by
  unfold lsF
  rw [List.filter_append]
  cases c : P x with
  | true => simp [c]
  | false => simp [c]
theorem P_lastAgree_4_e (L : Lk fa ta ia sa ca od p D) (W : WText D nc) (hb : ∀ a, a < D.2.1 → mI p 1295 (ta a) = tI (wB D inf vs tk a)) {k : Nat} (hk : k < D.2.1) : ∀ (e i fu : Nat), i + e = D.2.1 → e < fu → P_Reckoning_lastAgree_4 fu (some (ta k)) ((lsF (agP D inf vs tk k) (od.take i)).map ta) (nj i) p = some ((lsF (agP D inf vs tk k) od).map ta, p)
  | 0, i, fu + 1, hi, _ => by
    have h24 := W.1
    rw [P_Reckoning_lastAgree_4.eq_2, L.2.1.1, if_pos (by rw [nj_le (by omega) (by omega)]; omega), List.take_of_length_le (by rw [L.2.2.1.1]; omega)]
  | e + 1, i, fu + 1, hi, hf => by
    have h24 := W.1
    have ih := P_lastAgree_4_e L W hb hk e (i + 1) fu (by omega) (by omega)
    obtain ⟨l, l1, l2, l3⟩ := od_get L (i := i) (by omega)
    obtain ⟨-, t2, t3, -, -, -, -, t8, -⟩ := L.2.1.2.1 l l2
    obtain ⟨-, -, -, -, -, -, ⟨pa, hpa, h13, -⟩, -⟩ := W.2.2.1 l l2
    have htake : od.take (i + 1) = od.take i ++ [l] := by
      rw [List.take_add_one, l1]
      rfl
    rw [htake, lsF_snoc] at ih
    rw [P_Reckoning_lastAgree_4.eq_2, L.2.1.1, if_neg (by rw [nj_le (by omega) (by omega)]; omega), inb_nj (by omega), gd_t (decide_eq_true (by omega)), ix_nj (by omega), l3, gs_s, gt_t t2, t3, t8, hb l l2]
    unfold P_Reckoning_lastAgree_55
    simp only [vb_e, nj_add_l]
    by_cases c1 : D.1 8 l = 3
    · have hwb : wB D inf vs tk l = (inf l && bdS D vs tk l) := by
        unfold wB isW
        rw [decide_eq_true (Or.inr c1), Bool.true_and]
      have n0 : ¬ D.1 8 l = 0 := by rw [c1]; decide
      rw [if_pos c1, if_neg n0, h13, ix_nj (by omega), hwb]
      by_cases c2 : pa = k
      · have hP : agP D inf vs tk k l = (inf l && bdS D vs tk l) := by unfold agP; rw [decide_eq_true c1, decide_eq_true (show D.1 13 l = nj k by rw [h13, c2]), Bool.true_and, Bool.true_and]
        rw [hP] at ih
        rw [if_pos (by rw [c2])]
        cases c3 : (inf l && bdS D vs tk l) with
        | false => rw [c3] at ih; exact ih
        | true => rw [c3] at ih; exact ih
      · have hP : agP D inf vs tk k l = false := by
          unfold agP
          rw [decide_eq_false (show ¬ D.1 13 l = nj k from fun z => c2 ((nj_inj (by omega) (by omega)).mp (h13.symm.trans z))), Bool.false_and, Bool.and_false]
        rw [hP] at ih
        rw [if_neg (fun z => c2 (ta_inj L (by omega) hk (Option.some.inj z)))]
        exact ih
    · have hP : agP D inf vs tk k l = false := by unfold agP; rw [decide_eq_false c1, Bool.false_and]
      rw [hP] at ih
      rw [if_neg c1]
      exact ih
theorem P_lastAgree_e (L : Lk fa ta ia sa ca od p D) (W : WText D nc) (hb : ∀ a, a < D.2.1 → mI p 1295 (ta a) = tI (wB D inf vs tk a)) {k : Nat} (hk : k < D.2.1) : P_Reckoning_lastAgree (some (ta k)) p = some ((bst D (agP D inf vs tk k) D.2.1).map ta, p) := by
  have h24 := W.1
  have := P_lastAgree_4_e L W hb hk D.2.1 0 FU (by omega) (by unfold FU; omega)
  rw [agree_eq L.2.2.1.2.2.1 L.2.2.1.2.2.2] at this
  exact this
end Oo
