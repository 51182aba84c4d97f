/-! Layer C: the reference takes letters and digits -/
/-- what the reference's cut reads -/
def RT (m : Mem) (by' : Nat → Nat) (n : Nat) : Prop := n ≤ 2000 ∧ mI m 1540 0 = nj n ∧ ∀ i, i < n → by' i < 256 ∧ aI m 2 i &&& 255 = nj (by' i)
def byO (by' : Nat → Nat) (n j : Nat) : Nat := if j < n then by' j else 0
theorem R_at_e {m : Mem} {by' : Nat → Nat} {n j : Nat} (h : RT m by' n) (hj : j < 100000) : R_at (nj j) m = some (nj (byO by' n j), m) := by
  have hn := h.1
  unfold R_at byO
  rw [h.2.1]
  by_cases z : j < n
  · rw [if_neg (by rw [nj_le (by omega) (by omega)]; omega), inb_nj (by omega), gd_t (decide_eq_true (by omega)), ix_nj (by omega), (h.2.2 j z).2, if_pos z]
  · rw [if_pos (by rw [nj_le (by omega) (by omega)]; omega), if_neg z]
    rfl
theorem byO_lt {m : Mem} {by' : Nat → Nat} {n j : Nat} (h : RT m by' n) : byO by' n j < 256 := by
  unfold byO
  split
  · next z => exact (h.2.2 j z).1
  · omega
theorem R_cut_85_e {m : Mem} {by' : Nat → Nat} {n a : Nat} (h : RT m by' n) {k7 : Int32 → Mem → Option (Unit × Mem)} : ∀ (d j fu : Nat), a ≤ j → d = n - j → j ≤ n → d < fu →
    R_cut_85 k7 fu (nj a) (nj (j - a)) (nl (cdN 27 (fun i => by' (a + i) - 96) (min (j - a) 8))) m = R_cut_124 k7 (nj a) (nj (rnE (fun i => isLt (by' i)) d j - a)) (nl (cdN 27 (fun i => by' (a + i) - 96) (min (rnE (fun i => isLt (by' i)) d j - a) 8))) m
  | 0, j, fu + 1, ha, h1, h3, _ => by
    have hn := h.1
    rw [R_cut_85.eq_2, nj_add, show a + (j - a) = j by omega, R_at_e h (by omega), bn_s, R_isLetter_e (byO_lt h), bp_s]
    have e : byO by' n j = 0 := by unfold byO; rw [if_neg (by omega)]
    rw [e, show isLt 0 = false from rfl, tI_f, if_pos (show (0 : Int32) = 0 from rfl)]
    rfl
  | d + 1, j, fu + 1, ha, h1, h3, h2 => by
    have hn := h.1
    have eb : byO by' n j = by' j := by unfold byO; rw [if_pos (by omega)]
    have hb := (h.2.2 j (by omega)).1
    have e : rnE (fun i => isLt (by' i)) (d + 1) j = if isLt (by' j) = true then rnE (fun i => isLt (by' i)) d (j + 1) else j := rfl
    rw [R_cut_85.eq_2, nj_add, show a + (j - a) = j by omega, R_at_e h (by omega), bn_s, R_isLetter_e (byO_lt h), bp_s, eb, e]
    cases z : isLt (by' j) with
    | false =>
      rw [tI_f, if_pos (show (0 : Int32) = 0 from rfl), if_neg (show ¬ false = true by decide)]
    | true =>
      have z' := of_decide_eq_true z
      have ih := R_cut_85_e h (a := a) (k7 := k7) d (j + 1) fu (by omega) (by omega) (by omega) (by omega)
      rw [tI_t, if_neg (show ¬ (1 : Int32) = 0 by decide), if_pos (show true = true from rfl), ← ih, show j + 1 - a = (j - a) + 1 by omega]
      unfold R_cut_118
      rw [vb_e, nj_add_l]
      by_cases w : 8 ≤ j - a
      · rw [if_pos (by rw [nj_l_le (by omega) (by omega)]; exact w), show min (j - a) 8 = 8 by omega, show min (j - a + 1) 8 = 8 by omega]
      · rw [if_neg (by rw [nj_l_le (by omega) (by omega)]; exact w), R_at_e h (by omega), bn_s, eb]
        have em : R_more (nl (cdN 27 (fun i => by' (a + i) - 96) (min (j - a) 8))) (nj (by' j)) = some (nl (cdN 27 (fun i => by' (a + i) - 96) (min (j - a + 1) 8))) := by
          unfold R_more
          rw [if_neg (by rw [nj_eq_l (by omega) (by omega)]; omega), nj_sub_l z'.1, nj_add_l, nj_64 (by omega), show (27 : Int64) = nl 27 from rfl, nl_mul, nl_add, show min (j - a) 8 = j - a by omega, show min (j - a + 1) 8 = (j - a) + 1 by omega]
          show _ = some (nl (cdN 27 (fun i => by' (a + i) - 96) (j - a) * 27 + (by' (a + (j - a)) - 96)))
          rw [show a + (j - a) = j by omega, Nat.mul_comm 27, show by' j - 97 + 1 = by' j - 96 by omega]
        rw [em, bp_s, vb_e]
theorem R_cut_208_e {m : Mem} {by' : Nat → Nat} {n a : Nat} (h : RT m by' n) {k7 : Int32 → Mem → Option (Unit × Mem)} : ∀ (d j fu : Nat), a ≤ j → d = n - j → j ≤ n → d < fu →
    R_cut_208 k7 fu (nj a) (nj (j - a)) (cdD (fun i => by' (a + i) - 48) (min (j - a) 4)) m = R_cut_250 k7 (nj a) (nj (rnE (fun i => isDg (by' i)) d j - a)) (cdD (fun i => by' (a + i) - 48) (min (rnE (fun i => isDg (by' i)) d j - a) 4)) m
  | 0, j, fu + 1, ha, h1, h3, _ => by
    have hn := h.1
    rw [R_cut_208.eq_2, nj_add, show a + (j - a) = j by omega, R_at_e h (by omega), bn_s, R_isDigit_e (byO_lt h), bp_s]
    have e : byO by' n j = 0 := by unfold byO; rw [if_neg (by omega)]
    rw [e, show isDg 0 = false from rfl, tI_f, if_pos (show (0 : Int32) = 0 from rfl)]
    rfl
  | d + 1, j, fu + 1, ha, h1, h3, h2 => by
    have hn := h.1
    have eb : byO by' n j = by' j := by unfold byO; rw [if_pos (by omega)]
    have hb := (h.2.2 j (by omega)).1
    have e : rnE (fun i => isDg (by' i)) (d + 1) j = if isDg (by' j) = true then rnE (fun i => isDg (by' i)) d (j + 1) else j := rfl
    rw [R_cut_208.eq_2, nj_add, show a + (j - a) = j by omega, R_at_e h (by omega), bn_s, R_isDigit_e (byO_lt h), bp_s, eb, e]
    cases z : isDg (by' j) with
    | false =>
      rw [tI_f, if_pos (show (0 : Int32) = 0 from rfl), if_neg (show ¬ false = true by decide)]
    | true =>
      have z' := of_decide_eq_true z
      have ih := R_cut_208_e h (a := a) (k7 := k7) d (j + 1) fu (by omega) (by omega) (by omega) (by omega)
      rw [tI_t, if_neg (show ¬ (1 : Int32) = 0 by decide), if_pos (show true = true from rfl), ← ih, show j + 1 - a = (j - a) + 1 by omega]
      unfold R_cut_244
      rw [vb_e, nj_add_l]
      by_cases w : 4 ≤ j - a
      · rw [if_pos (by rw [nj_l_le (by omega) (by omega)]; exact w), show min (j - a) 4 = 4 by omega, show min (j - a + 1) 4 = 4 by omega]
      · rw [if_neg (by rw [nj_l_le (by omega) (by omega)]; exact w), R_at_e h (by omega), bn_s, eb, vb_e]
        have em : 10 * cdD (fun i => by' (a + i) - 48) (min (j - a) 4) + nj (by' j) - 48 = cdD (fun i => by' (a + i) - 48) (min (j - a + 1) 4) := by
          rw [show min (j - a) 4 = j - a by omega, show min (j - a + 1) 4 = (j - a) + 1 by omega]
          show _ = cdD (fun i => by' (a + i) - 48) (j - a) * 10 + nj (by' (a + (j - a)) - 48)
          rw [show a + (j - a) = j by omega, Int32.mul_comm 10, Int32.sub_eq_add_neg, Int32.add_assoc, ← Int32.sub_eq_add_neg, nj_sub_l z'.1]
        rw [em, vb_e]
