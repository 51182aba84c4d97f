/-! Layer C: signs -/
/-- kind of a sign, in the class's numbers; q: '=' follows -/
def sgK (b : Nat) (q : Bool) : Nat :=
  if b = 33 then (if q = true then 11 else 1) else if b = 40 then 14 else if b = 41 then 15 else if b = 42 then 8 else if b = 43 then 6 else if b = 44 then 5 else if b = 45 then 7 else if b = 47 then 9 else if b = 59 then 4 else if b = 60 then (if q = true then 13 else 12) else if b = 61 then (if q = true then 10 else 1) else 1
/-- how long it is -/
def sgN (k : Nat) : Nat := if k = 10 ∨ k = 11 ∨ k = 13 then 2 else 1
theorem P_signKind_e : ∀ b, b < 256 → ∀ q : Bool, P_Lexer_signKind (nj b) (tI q) = some (nj (sgK b q)) := by decide +kernel
theorem sgK_lt : ∀ b, b < 256 → ∀ q : Bool, sgK b q < 16 ∧ 0 < sgK b q := by decide +kernel
def rs0 (b : Int32) (q : Bool) : Int32 := if q = true then (if b = 61 then 11 else if b = 33 then 12 else if b = 60 then 14 else 0) else 0
def rs1 (b : Int32) : Int32 := if b = 59 then 4 else if b = 40 then 6 else if b = 41 then 7 else if b = 43 then 8 else if b = 45 then 9 else if b = 42 then 10 else if b = 60 then 13 else if b = 44 then 5 else if b = 47 then 15 else 3
theorem R_sign_44_e {x1 x2 s0 : Int32} {m : Mem} : R_sign_44 x1 x2 s0 m = R_sign_173 x1 s0 (if s0 ≤ 0 then rs1 x2 else s0) m := by
  unfold R_sign_44 rs1
  by_cases z : s0 ≤ 0
  · rw [if_pos z, if_pos z]
    repeat (first | rfl | split)
  · rw [if_neg z, if_neg z]
theorem R_sign_r {x1 x2 x3 : Int32} {m : Mem} : R_sign x1 x2 x3 m = R_sign_44 x1 x2 (rs0 x2 (decide (x3 = 61))) m := by
  unfold R_sign rs0
  by_cases z : x3 = 61
  · rw [if_pos z, decide_eq_true z, if_pos rfl]
    repeat (first | rfl | split)
  · rw [if_neg z, decide_eq_false z, if_neg (by decide)]
theorem rs_e : ∀ b, b < 256 → ∀ q : Bool, (if rs0 (nj b) q ≤ 0 then rs1 (nj b) else rs0 (nj b) q) = nj (kM (sgK b q)) ∧ (if rs0 (nj b) q ≤ 0 then (1 : Int32) else 2) = nj (sgN (sgK b q)) := by decide +kernel
theorem R_sign_e {x1 : Int32} {b nx : Nat} {m : Mem} (hb : b < 256) (hx : nx < 256) : R_sign x1 (nj b) (nj nx) m = bn (R_token (nj (kM (sgK b (decide (nx = 61))))) x1 0 0 m) fun _ m2 => some (nj (sgN (sgK b (decide (nx = 61)))), m2) := by
  have e : decide (nj nx = (61 : Int32)) = decide (nx = 61) := by
    have : (nj nx = 61) = (nx = 61) := nj_eq_l (by omega) (by omega)
    by_cases z : nx = 61
    · rw [decide_eq_true z, decide_eq_true (this.mpr z)]
    · rw [decide_eq_false z, decide_eq_false (fun w => z (this.mp w))]
  obtain ⟨e1, e2⟩ := rs_e b hb (decide (nx = 61))
  rw [R_sign_r, e, R_sign_44_e, e1, R_sign_173, ← e2]
  congr 1
  funext _ m2
  split <;> rfl
theorem P_takeToken_60_e {b : Nat} {q : Bool} {m : Mem} {j : Nat} (hb : b < 256) (hm : mI m 646 16 = nj j) : P_Lexer_takeToken_60 (nj b) (tI q) m = some (nj (sgK b q), sI m 646 16 (nj (j + sgN (sgK b q)))) := by
  have hk := (sgK_lt b hb q).1
  unfold P_Lexer_takeToken_60 P_Lexer_takeToken_94 P_Lexer_takeToken_99
  rw [P_signKind_e b hb q, bp_s, hm]
  generalize sgK b q = k at hk
  have e10 : (nj k = 10) = (k = 10) := nj_eq_l (by omega) (by omega)
  have e11 : (nj k = 11) = (k = 11) := nj_eq_l (by omega) (by omega)
  have e13 : (nj k = 13) = (k = 13) := nj_eq_l (by omega) (by omega)
  simp only [e10, e11, e13, vb_e, nj_add_l]
  unfold sgN
  by_cases z1 : k = 10
  · rw [if_pos z1, if_pos (by omega)]
  · rw [if_neg z1]
    by_cases z2 : k = 11
    · rw [if_pos z2, if_pos (by omega)]
    · rw [if_neg z2]
      by_cases z3 : k = 13
      · rw [if_pos z3, if_pos (by omega)]
      · rw [if_neg z3, if_neg (by omega)]
