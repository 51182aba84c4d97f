/-! Layer C: TASKS of a DAY, and of a week before a DAY -/
def isTk (v : Int32) : Bool := decide (0 ≤ v ∧ v ≤ 15)
/-- TASKS among the first HALVES of a row -/
def tkN (D : Dt) (o : Option Nat) : Nat → Nat
  | 0 => 0
  | h + 1 => tkN D o h + if isTk (dnS D o h) then 1 else 0
/-- TASKS on the first q DAYS of a week -/
def whN (D : Dt) (a : Int32) (wk n : Nat) : Nat → Nat
  | 0 => 0
  | q + 1 => whN D a wk n q + tkN D (rowS D a (nj (7 * wk + q)) n) 48
section Tk
variable {fa ta ia sa ca : Nat → Nat} {od : List Nat} {p r : Mem} {D : Dt} {nc : Nat}
theorem R_isTask_e (x : Int32) : R_isTask x = some (tI (isTk x)) := by
  unfold R_isTask isTk tI
  grind
theorem P_isTask_k (x : Int32) : P_isTask x = some (tI (isTk x)) := by
  unfold P_isTask
  rw [P_within_e, bp_s, gz_tI]
  rfl
theorem tkN_le {D : Dt} {o : Option Nat} : ∀ h, tkN D o h ≤ h
  | 0 => Nat.le_refl _
  | h + 1 => by
    have := tkN_le (D := D) (o := o) h
    unfold tkN
    split <;> omega
theorem whN_le {D : Dt} {a : Int32} {wk n : Nat} : ∀ q, whN D a wk n q ≤ 48 * q
  | 0 => Nat.le_refl _
  | q + 1 => by
    have := whN_le (D := D) (a := a) (wk := wk) (n := n) q
    have := tkN_le (D := D) (o := rowS D a (nj (7 * wk + q)) n) 48
    unfold whN
    omega
theorem R_tasksOf_15_e (hD : dat r = D) {o : Option Nat} (ho : ∀ i, o = some i → i < 160) : ∀ (e h fu : Nat), h + e = 48 → e < fu → R_tasksOf_15 fu (jo o) (nj (tkN D o h)) (nj h) r = some (nj (tkN D o 48), r)
  | 0, h, fu + 1, he, _ => by
    rw [R_tasksOf_15.eq_2, if_pos (by rw [show (48 : Int32) = nj 48 from rfl, nj_le (by omega) (by omega)]; omega), show h = 48 by omega]
  | e + 1, h, fu + 1, he, hf => by
    have ih := R_tasksOf_15_e hD ho e (h + 1) fu (by omega) (by omega)
    rw [R_tasksOf_15.eq_2, if_neg (by rw [show (48 : Int32) = nj 48 from rfl, nj_le (by omega) (by omega)]; omega), R_doneIn_e hD ho (by omega), bn_s, R_isTask_e, bp_s]
    unfold R_tasksOf_39
    simp only [vb_e, nj_add_l]
    have hs : tkN D o (h + 1) = tkN D o h + if isTk (dnS D o h) then 1 else 0 := rfl
    rw [hs] at ih
    cases c : isTk (dnS D o h) with
    | false =>
      rw [c] at ih
      exact ih
    | true =>
      rw [c] at ih
      exact ih
theorem R_tasksOf_e (hD : dat r = D) {x1 x2 : Int32} {n : Nat} (hn : n ≤ 160) : R_tasksOf x1 x2 (nj n) r = some (nj (tkN D (rowS D x1 x2 n) 48), r) := by
  unfold R_tasksOf
  rw [R_rowFact_e hD hn, bn_s]
  exact R_tasksOf_15_e hD (fun i hi => by have := (rowS_some hi).1; omega) 48 0 FU (by omega) (by unfold FU; omega)
theorem tkN_none : ∀ h, tkN D none h = 0
  | 0 => rfl
  | h + 1 => by
    unfold tkN
    rw [tkN_none h]
    rfl
theorem tkN_end {i n' : Nat} (h48 : n' ≤ 48) (e : D.1 48 i = -1 ∧ n' = 0 ∨ D.1 48 i = nj n') : ∀ x, n' + x ≤ 48 → tkN D (some i) (n' + x) = tkN D (some i) n'
  | 0, _ => rfl
  | x + 1, hx => by
    have ih := tkN_end h48 e x (by omega)
    show tkN D (some i) (n' + x) + (if isTk (dnS D (some i) (n' + x)) then 1 else 0) = _
    have hd : dnS D (some i) (n' + x) = -2 := by
      unfold dnS
      have : ¬ nj (n' + x) < D.1 48 i := by
        rcases e with ⟨e, -⟩ | e
        · rw [e]
          have : (0 : Int32) ≤ nj (n' + x) := Int32.not_lt.mp (by rw [nj_nneg (by omega)]; exact id)
          grind
        · rw [e, nj_lt (by omega) (by omega)]; omega
      simp only [this, if_false]
    rw [hd, ih]
    rfl
theorem P_tasksOn_29_e (L : LFact fa ta p D) {a : Int32} {wk n q i n' : Nat} (H : Ld29 fa D a wk n p) (hq : q < 7) (hi : rowS D a (nj (7 * wk + q)) n = some i) (hid : i < D.2.2) (h6 : D.1 44 i = 6) (y1 : mN p (fa i + 1) = n') (y2 : n' ≤ 48) (y3 : D.1 48 i = -1 ∧ n' = 0 ∨ D.1 48 i = nj n') (y4 : ∀ h, h < n' → aI p (fa i + 1) h = D.1 49 (48 * i + h)) : ∀ (e h fu : Nat), h + e = n' → e < fu → P_Reckoning_tasksOn_29 fu (nj q) (nj (tkN D (some i) h)) (nj n') (nj h) p = some (nj (tkN D (some i) n'), p)
  | 0, h, fu + 1, he, _ => by
    rw [P_Reckoning_tasksOn_29.eq_2, if_pos (by rw [nj_le (by omega) (by omega)]; omega), show h = n' by omega]
  | e + 1, h, fu + 1, he, hf => by
    have ih := P_tasksOn_29_e L H hq hi hid h6 y1 y2 y3 y4 e (h + 1) fu (by omega) (by omega)
    obtain ⟨-, z2, -⟩ := L.2 i hid
    have hd : dnS D (some i) h = D.1 49 (48 * i + h) := by
      have e' : D.1 48 i = nj n' := by
        rcases y3 with ⟨-, e⟩ | e
        · omega
        · exact e
      have : nj h < D.1 48 i := by rw [e', nj_lt (by omega) (by omega)]; omega
      unfold dnS
      simp only [this, if_true]
    rw [P_Reckoning_tasksOn_29.eq_2, if_neg (by rw [nj_le (by omega) (by omega)]; omega), inb_nj (by omega), gd_t (decide_eq_true hq), ix_nj (by omega), H.2.2 q hq, hi]
    show gs (some (fa i)) _ = _
    rw [gs_s, gt_t z2.2.1, z2.2.2.1, gs_s, gt_t z2.2.2.2.1, y1, inb_nj (by omega), gd_t (decide_eq_true (by omega)), ix_nj (by omega), y4 h (by omega), ← hd, P_isTask_k, bp_s]
    unfold P_Reckoning_tasksOn_56
    simp only [vb_e, nj_add_l]
    have hs : tkN D (some i) (h + 1) = tkN D (some i) h + if isTk (dnS D (some i) h) then 1 else 0 := rfl
    rw [hs] at ih
    cases c : isTk (dnS D (some i) h) with
    | false =>
      rw [c] at ih
      exact ih
    | true =>
      rw [c] at ih
      exact ih
theorem P_tasksOn_e (L : LFact fa ta p D) {a : Int32} {wk n q : Nat} (H : Ld29 fa D a wk n p) (hn : n ≤ D.2.2) (hq : q < 7) : P_Reckoning_tasksOn (nj q) p = some (nj (tkN D (rowS D a (nj (7 * wk + q)) n) 48), p) := by
  unfold P_Reckoning_tasksOn P_Reckoning_tasksOn_25
  rw [inb_nj (by omega), gd_t (decide_eq_true hq), gd_t (decide_eq_true hq), ix_nj (by omega), H.2.2 q hq]
  cases c : rowS D a (nj (7 * wk + q)) n with
  | none =>
    rw [tkN_none]
    show P_Reckoning_tasksOn_29 (FU - 1 + 1) (nj q) 0 0 0 p = _
    rw [P_Reckoning_tasksOn_29.eq_2, if_pos (Int32.le_refl _)]
    rfl
  | some i =>
    obtain ⟨c1, c2, -⟩ := rowS_some c
    obtain ⟨-, z2, -⟩ := L.2 i (by omega)
    obtain ⟨-, n', y1, y2, y3, y4⟩ := z2.2.2.2.2.2.2.2.2.1 c2
    show (if some (fa i) = none then _ else gs (some (fa i)) _) = _
    rw [if_neg (by simp), gs_s, gt_t z2.2.1, z2.2.2.1, gs_s, gt_t z2.2.2.2.1, y1]
    have := P_tasksOn_29_e L H hq c (by omega) c2 y1 y2 y3 y4 n' 0 FU (by omega) (by unfold FU; omega)
    have e48 : tkN D (some i) 48 = tkN D (some i) n' := by
      have := tkN_end y2 y3 (48 - n') (by omega)
      rw [show n' + (48 - n') = 48 by omega] at this
      exact this
    rw [e48]
    exact this
/-- the week before a DAY, in the class -/
theorem P_reckon_7_e {a : Int32} {wk n d : Nat} (hn : n ≤ D.2.2) (hd : d < 7) : ∀ (e q fu : Nat) (p : Mem), q + e = d → e < fu → LFact fa ta p D → Top p → Ld29 fa D a wk n p → mI p 1032 28 = nj (whN D a wk n q) → ∃ p', P_Reckoning_reckon_7 fu (nj d) (nj q) p = P_Reckoning_reckon_32 (nj d) p' ∧ mI p' 1032 28 = nj (whN D a wk n d) ∧ Ld29 fa D a wk n p' ∧ Ch [1032] [] nil p p' ∧ mC p' = mC p ∧ mS p' = mS p
  | 0, q, fu + 1, p, he, _, L, T, H, h32 => by
    refine ⟨p, ?_, by rw [show d = q by omega]; exact h32, H, Ch.rfl, rfl, rfl⟩
    rw [P_Reckoning_reckon_7.eq_2, if_pos (by rw [nj_le (by omega) (by omega)]; omega)]
  | e + 1, q, fu + 1, p, he, hf, L, T, H, h32 => by
    have c1 : Ch [1032] [] nil p (sI p 1032 28 (nj (whN D a wk n (q + 1)))) := Ch.rfl.sI (by decide)
    obtain ⟨p', a1, a2, a3, a4, a5, a6⟩ := P_reckon_7_e (a := a) (wk := wk) hn hd e (q + 1) fu (sI p 1032 28 (nj (whN D a wk n (q + 1)))) (by omega) (by omega) (L.Ch T c1 (fun f hf => by simp; omega) (fun a ha => List.not_mem_nil) ⟨nil_no, fun _ _ => nil_no⟩) (T.Ch c1) ⟨by rw [k_mI_sI (by omega)]; exact H.1, by rw [k_mI_sI (by omega)]; exact H.2.1, H.2.2⟩ (by rw [k_mI_sI_e, up1_eq])
    refine ⟨p', ?_, a2, a3, c1.trans a4, a5, a6⟩
    rw [P_Reckoning_reckon_7.eq_2, if_neg (by rw [nj_le (by omega) (by omega)]; omega), P_tasksOn_e L H hn (by omega), bn_s, vb_e, vb_e, h32, nj_add, nj_add_l]
    exact a1
/-- the week before a DAY, in the reference -/
theorem R_looks_90_e {a x4 : Int32} {wk n d : Nat} (hn : n ≤ D.2.2) (h160 : D.2.2 ≤ 160) (hw : wk < 20) (hd : d < 7) : ∀ (e q fu : Nat) (r : Mem), q + e = d → e < fu → dat r = D → 82 ≤ mC r → mI r 1638 0 = nj (whN D a wk n q) → ∃ r', R_looks_90 fu a (nj (7 * wk + d)) (nj n) x4 (nj (7 * wk + q)) r = R_looks_119 a x4 r' ∧ mI r' 1638 0 = nj (whN D a wk n d) ∧ Ch [1638] [] nil r r' ∧ mC r' = mC r
  | 0, q, fu + 1, r, he, _, hD, hC, h38 => by
    refine ⟨r, ?_, by rw [show d = q by omega]; exact h38, Ch.rfl, rfl⟩
    rw [R_looks_90.eq_2, if_pos (by rw [nj_le (by omega) (by omega)]; omega)]
  | e + 1, q, fu + 1, r, he, hf, hD, hC, h38 => by
    have c1 : Ch [1638] [] nil r (sI r 1638 0 (nj (whN D a wk n (q + 1)))) := Ch.rfl.sI (by decide)
    obtain ⟨r', a1, a2, a3, a4⟩ := R_looks_90_e (a := a) (x4 := x4) (wk := wk) hn h160 hw hd e (q + 1) fu (sI r 1638 0 (nj (whN D a wk n (q + 1)))) (by omega) (by omega) ((dat_Ch c1 hC (by decide) (by decide)).trans hD) hC (by rw [k_mI_sI_e, up1_eq])
    refine ⟨r', ?_, a2, c1.trans a3, a4⟩
    rw [R_looks_90.eq_2, if_neg (by rw [nj_le (by omega) (by omega)]; omega), R_tasksOf_e hD (by omega), bn_s, vb_e, vb_e, h38, nj_add, nj_add_l]
    exact a1
end Tk
