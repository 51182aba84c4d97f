/-! Layer C: what a way to part costs (spec), the class's groupsAmong isTorn withValue -/
theorem jmax_nj {a b : Nat} (ha : a < 2147483648) (hb : b < 2147483648) : jmax (nj a) (nj b) = nj (max a b) := by
  unfold jmax
  simp only [nj_lt ha hb]
  by_cases q : a < b
  · rw [if_pos q, Nat.max_eq_right (by omega)]
  · rw [if_neg q, Nat.max_eq_left (by omega)]
theorem jmin_nj {a b : Nat} (ha : a < 2147483648) (hb : b < 2147483648) : jmin (nj a) (nj b) = nj (min a b) := by
  unfold jmin
  simp only [nj_lt hb ha]
  by_cases q : b < a
  · rw [if_pos q, Nat.min_eq_right (by omega)]
  · rw [if_neg q, Nat.min_eq_left (by omega)]
section Sp
variable (L : List Nat) (v : Nat → Nat) (q : Nat → Nat → Bool) (d c : Nat)
/-- how many of the first n are of group c and have value x -/
def cnV (x : Nat) : Nat → Nat
  | 0 => 0
  | n + 1 => if L.getD n 0 = c ∧ v n = x then cnV x n + 1 else cnV x n
def loV : Nat → Nat
  | 0 => 0
  | n + 1 => if L.getD n 0 = c then max (loV n) (v n - d) else loV n
def hiV : Nat → Nat
  | 0 => 9999
  | n + 1 => if L.getD n 0 = c then min (hiV n) (v n + d) else hiV n
def nuV : Nat → Nat
  | 0 => 0
  | n + 1 => if L.getD n 0 = c then nuV n + 1 else nuV n
/-- one of the first k of group c is apart from j -/
def anT (j : Nat) : Nat → Bool
  | 0 => false
  | k + 1 => anT j k || (decide (L.getD k 0 = c) && q j k)
def tnV : Nat → Bool
  | 0 => false
  | n + 1 => tnV n || (decide (L.getD n 0 = c) && anT L q c n n)
def btr (a b : Nat × Nat) : Bool := decide (b.1 < a.1) || (decide (a.1 = b.1) && decide (a.2 < b.2))
/-- the value that most have, the least of them, out of the first n -/
def bsV (s lo hi : Nat) (st : Nat × Nat) : Nat → Nat × Nat
  | 0 => st
  | n + 1 => if L.getD n 0 = c ∧ lo ≤ v n ∧ v n ≤ hi ∧ btr (cnV L v c (v n) s, v n) (bsV s lo hi st n) = true then (cnV L v c (v n) s, v n) else bsV s lo hi st n
/-- TASKS changed, value of group c; none where it can't be -/
def seV (s : Nat) : Option (Nat × Nat) :=
  if tnV L q c s = true ∨ hiV L v d c s < loV L v d c s then none
  else some (nuV L c s - (bsV L v c s (loV L v d c s) (hiV L v d c s) (0, loV L v d c s) s).1, (bsV L v c s (loV L v d c s) (hiV L v d c s) (0, loV L v d c s) s).2)
end Sp
theorem anT_iff {L : List Nat} {q : Nat → Nat → Bool} {c j : Nat} : ∀ k, anT L q c j k = true ↔ ∃ i, i < k ∧ L.getD i 0 = c ∧ q j i = true
  | 0 => ⟨(fun z => by cases z), fun ⟨i, z, _⟩ => absurd z (Nat.not_lt_zero i)⟩
  | k + 1 => by
    show (anT L q c j k || (decide (L.getD k 0 = c) && q j k)) = true ↔ _
    rw [Bool.or_eq_true, Bool.and_eq_true, decide_eq_true_eq, anT_iff k]
    constructor
    · rintro (⟨i, h1, h2⟩ | h)
      · exact ⟨i, by omega, h2⟩
      · exact ⟨k, by omega, h⟩
    · rintro ⟨i, h1, h2⟩
      by_cases z : i = k
      · exact Or.inr (z ▸ h2)
      · exact Or.inl ⟨i, by omega, h2⟩
/-- what the class's parting reads -/
def PR (m : Mem) (s : Nat) (L : List Nat) (mb tv : Nat → Nat) (ap : Nat → Nat → Bool) : Prop :=
  s ≤ 7 ∧ mI m 901 41 = nj s ∧ (∀ i, i < s → mb i < 16 ∧ aI m 46 i = nj (mb i) ∧ L.getD i 0 ≤ i ∧ aI m 47 i = nj (L.getD i 0)) ∧
  (∀ t, t < 16 → tv t < 1000 ∧ aI m 42 t = nj (tv t) ∧ ∀ b, b < 16 → bI (aI m 43 t) b = ap t b)
section Pw
variable {m : Mem} {s : Nat} {L : List Nat} {mb tv : Nat → Nat} {ap : Nat → Nat → Bool}
theorem mxL_le (h : ∀ i, i < s → L.getD i 0 ≤ i) : ∀ n, n ≤ s → mxL L n ≤ n
  | 0, _ => Nat.le_refl _
  | n + 1, hn => by
    have h1 := mxL_le h n (by omega)
    have h2 := h n (by omega)
    show max (mxL L n) (L.getD n 0 + 1) ≤ n + 1
    omega
theorem PR.le (h : PR m s L mb tv ap) : ∀ i, i < s → L.getD i 0 ≤ i := fun i hi => (h.2.2.1 i hi).2.2.1
theorem P_groupsAmong_4_e (h : PR m s L mb tv ap) {n : Nat} (hn : n ≤ s) : ∀ (k j fu : Nat), j + k = n → k < fu → P_Parting_groupsAmong_4 fu (nj n) (nj (mxL L j)) (nj j) m = some (nj (mxL L n), m)
  | 0, j, fu + 1, h1, _ => by
    rw [P_Parting_groupsAmong_4.eq_2, if_pos (by rw [nj_le (by have := h.1; omega) (by have := h.1; omega)]; omega), show j = n by omega]
  | k + 1, j, fu + 1, h1, h2 => by
    have hs := h.1
    have hj := h.2.2.1 j (by omega)
    have hm := mxL_le h.le j (by omega)
    rw [P_Parting_groupsAmong_4.eq_2, if_neg (by rw [nj_le (by omega) (by omega)]; omega), inb_nj (by omega), gd_t (decide_eq_true (by omega)), vb_e, vb_e, ix_nj (by omega), hj.2.2.2, nj_add_l, jmax_nj (by omega) (by omega), nj_add_l]
    exact P_groupsAmong_4_e h hn k (j + 1) fu (by omega) (by omega)
theorem P_groupsAmong_e (h : PR m s L mb tv ap) {n : Nat} (hn : n ≤ s) : P_Parting_groupsAmong (nj n) m = some (nj (mxL L n), m) := by
  unfold P_Parting_groupsAmong
  exact P_groupsAmong_4_e h hn n 0 FU (by omega) (by have := h.1; unfold FU; omega)
theorem bI_0 {x : Int32} : (x = 0) = (∀ c, c < 32 → bI x c = false) := by
  apply propext
  constructor
  · rintro rfl c -
    show (0#32).getLsbD c = false
    exact BitVec.getLsbD_zero
  · intro h
    apply Int32.toBitVec.inj
    apply BitVec.eq_of_getLsbD_eq
    intro i hi
    rw [show (0 : Int32).toBitVec = 0#32 from rfl, BitVec.getLsbD_zero]
    exact h i hi
theorem bI_1w : ∀ b, b < 16 → ∀ c, c < 32 → bI (1 <<< (nj b &&& 31)) c = decide (c = b) := by decide +kernel
theorem P_isTorn_4_e (h : PR m s L mb tv ap) {c : Nat} (hc : c < 8) : ∀ (k j fu : Nat) (x : Int32), j + k = s → k < fu → (∀ b, b < 32 → (bI x b = true ↔ ∃ i, i < j ∧ L.getD i 0 = c ∧ mb i = b)) → tnV L (fun a b => ap (mb a) (mb b)) c j = false → P_Parting_isTorn_4 fu (nj c) x (nj j) m = some (tI (tnV L (fun a b => ap (mb a) (mb b)) c s), m)
  | 0, j, fu + 1, x, h1, _, _, h4 => by
    rw [P_Parting_isTorn_4.eq_2, h.2.1, if_pos (by rw [nj_le (by have := h.1; omega) (by have := h.1; omega)]; omega), ← show j = s by omega, h4]
    rfl
  | k + 1, j, fu + 1, x, h1, h2, h3, h4 => by
    have hs := h.1
    have hj := h.2.2.1 j (by omega)
    have ht := h.2.2.2 (mb j) hj.1
    have g : ∀ {β : Type} (z : Option β), gd (inb (nj j) 7) z = z := fun z => by rw [inb_nj (by omega), gd_t (decide_eq_true (by omega))]
    have g2 : ∀ {β : Type} (z : Option β), gd (inb (nj (mb j)) 16) z = z := fun z => by rw [inb_nj (by omega), gd_t (decide_eq_true (by omega))]
    rw [P_Parting_isTorn_4.eq_2, h.2.1, if_neg (by rw [nj_le (by omega) (by omega)]; omega)]
    simp only [g, ix_nj (show j < 2147483648 by omega), hj.2.2.2, hj.2.1, g2, vb_e, ix_nj (show mb j < 2147483648 by omega)]
    have ez : (nj (L.getD j 0) = nj c) = (L.getD j 0 = c) := nj_inj (by omega) (by omega)
    unfold P_Parting_isTorn_51
    simp only [vb_e, nj_add_l, ez]
    by_cases z : L.getD j 0 = c
    · rw [if_pos z]
      have e : (aI m 43 (mb j) &&& x = 0) = (anT L (fun a b => ap (mb a) (mb b)) c j j = false) := by
        rw [bI_0, ← Bool.not_eq_true, anT_iff]
        apply propext
        constructor
        · rintro y ⟨i, hi, h5, h6⟩
          have hmi := (h.2.2.1 i (by omega)).1
          have y1 := y (mb i) (by omega)
          rw [bI_and, ht.2.2 _ hmi, h6, (h3 (mb i) (by omega)).mpr ⟨i, hi, h5, rfl⟩] at y1
          cases y1
        · intro y b hb
          rw [bI_and]
          cases hx : bI x b with
          | false => rw [Bool.and_false]
          | true =>
            obtain ⟨i, hi, h5, h6⟩ := (h3 b hb).mp hx
            have hmi := (h.2.2.1 i (by omega)).1
            rw [Bool.and_true, ← h6, ht.2.2 _ hmi]
            cases ha : ap (mb j) (mb i) with
            | false => rfl
            | true => exact absurd ⟨i, hi, h5, ha⟩ y
      simp only [e]
      by_cases ha : anT L (fun a b => ap (mb a) (mb b)) c j j = false
      · rw [if_pos ha]
        refine P_isTorn_4_e h hc k (j + 1) fu _ (by omega) (by omega) (fun b hb => ?_) ?_
        · rw [bI_or, bI_1w _ hj.1 b hb, Bool.or_eq_true, decide_eq_true_eq, h3 b hb]
          constructor
          · rintro (⟨i, h5, h6⟩ | h5)
            · exact ⟨i, by omega, h6⟩
            · exact ⟨j, by omega, z, h5.symm⟩
          · rintro ⟨i, h5, h6, h7⟩
            by_cases y : i = j
            · exact Or.inr (by rw [← h7, y])
            · exact Or.inl ⟨i, by omega, h6, h7⟩
        · show (tnV L _ c j || (decide (L.getD j 0 = c) && anT L _ c j j)) = false
          rw [h4, ha, Bool.and_false, Bool.or_false]
      · rw [if_neg ha]
        rw [Bool.not_eq_false] at ha
        have t1 : ∀ n, j + 1 ≤ n → tnV L (fun a b => ap (mb a) (mb b)) c n = true := by
          intro n hn
          induction n with
          | zero => omega
          | succ n ih =>
            show (tnV L _ c n || (decide (L.getD n 0 = c) && anT L _ c n n)) = true
            by_cases y : n = j
            · rw [y, ha, decide_eq_true z, Bool.and_true, Bool.or_true]
            · rw [ih (by omega), Bool.true_or]
        rw [t1 s (by omega)]
        rfl
    · rw [if_neg z]
      refine P_isTorn_4_e h hc k (j + 1) fu x (by omega) (by omega) (fun b hb => ?_) ?_
      · rw [h3 b hb]
        constructor
        · rintro ⟨i, h5, h6⟩
          exact ⟨i, by omega, h6⟩
        · rintro ⟨i, h5, h6, h7⟩
          have y : i ≠ j := fun y => z (y ▸ h6)
          exact ⟨i, by omega, h6, h7⟩
      · show (tnV L _ c j || (decide (L.getD j 0 = c) && anT L _ c j j)) = false
        rw [h4, decide_eq_false z, Bool.false_and, Bool.or_false]
theorem P_isTorn_e (h : PR m s L mb tv ap) {c : Nat} (hc : c < 8) : P_Parting_isTorn (nj c) m = some (tI (tnV L (fun a b => ap (mb a) (mb b)) c s), m) := by
  unfold P_Parting_isTorn
  refine P_isTorn_4_e h hc s 0 FU 0 (by omega) (by have := h.1; unfold FU; omega) (fun b hb => ?_) rfl
  constructor
  · intro z
    have := bI_0.mp (rfl : (0 : Int32) = 0) b hb
    rw [this] at z
    cases z
  · rintro ⟨i, z, _⟩
    exact absurd z (Nat.not_lt_zero i)
theorem cnV_le {L : List Nat} {v : Nat → Nat} {c x : Nat} : ∀ n, cnV L v c x n ≤ n
  | 0 => Nat.le_refl _
  | n + 1 => by
    have := cnV_le (L := L) (v := v) (c := c) (x := x) n
    show (if L.getD n 0 = c ∧ v n = x then cnV L v c x n + 1 else cnV L v c x n) ≤ n + 1
    split <;> omega
theorem P_withValue_5_e (h : PR m s L mb tv ap) {c x : Nat} (hc : c < 8) (hx : x < 20000) : ∀ (k j fu : Nat), j + k = s → k < fu → P_Parting_withValue_5 fu (nj c) (nj x) (nj (cnV L (fun i => tv (mb i)) c x j)) (nj j) m = some (nj (cnV L (fun i => tv (mb i)) c x s), m)
  | 0, j, fu + 1, h1, _ => by
    rw [P_Parting_withValue_5.eq_2, h.2.1, if_pos (by rw [nj_le (by have := h.1; omega) (by have := h.1; omega)]; omega), show j = s by omega]
  | k + 1, j, fu + 1, h1, h2 => by
    have hs := h.1
    have hj := h.2.2.1 j (by omega)
    have ht := h.2.2.2 (mb j) hj.1
    have hl := cnV_le (L := L) (v := fun i => tv (mb i)) (c := c) (x := x) j
    have g : ∀ {β : Type} (z : Option β), gd (inb (nj j) 7) z = z := fun z => by rw [inb_nj (by omega), gd_t (decide_eq_true (by omega))]
    have g2 : ∀ {β : Type} (z : Option β), gd (inb (nj (mb j)) 16) z = z := fun z => by rw [inb_nj (by omega), gd_t (decide_eq_true (by omega))]
    have ih := P_withValue_5_e h hc hx k (j + 1) fu (by omega) (by omega)
    have es : cnV L (fun i => tv (mb i)) c x (j + 1) = if L.getD j 0 = c ∧ tv (mb j) = x then cnV L (fun i => tv (mb i)) c x j + 1 else cnV L (fun i => tv (mb i)) c x j := rfl
    rw [es] at ih
    rw [P_Parting_withValue_5.eq_2, h.2.1, if_neg (by rw [nj_le (by omega) (by omega)]; omega)]
    unfold P_Parting_withValue_44
    simp only [g, ix_nj (show j < 2147483648 by omega), hj.2.2.2, hj.2.1, g2, vb_e, ix_nj (show mb j < 2147483648 by omega), ht.2.1, nj_add_l]
    have ez : (nj (L.getD j 0) = nj c) = (L.getD j 0 = c) := nj_inj (by omega) (by omega)
    have ey : (nj (tv (mb j)) = nj x) = (tv (mb j) = x) := nj_inj (by omega) (by omega)
    simp only [ez, ey]
    by_cases z : L.getD j 0 = c
    · rw [if_pos z]
      by_cases z2 : tv (mb j) = x
      · rw [if_pos z2]
        rw [if_pos ⟨z, z2⟩] at ih
        exact ih
      · rw [if_neg z2]
        rw [if_neg (fun y => z2 y.2)] at ih
        exact ih
    · rw [if_neg z]
      rw [if_neg (fun y => z y.1)] at ih
      exact ih
theorem P_withValue_e (h : PR m s L mb tv ap) {c x : Nat} (hc : c < 8) (hx : x < 20000) : P_Parting_withValue (nj c) (nj x) m = some (nj (cnV L (fun i => tv (mb i)) c x s), m) := by
  unfold P_Parting_withValue
  exact P_withValue_5_e h hc hx s 0 FU (by omega) (by have := h.1; unfold FU; omega)
end Pw
