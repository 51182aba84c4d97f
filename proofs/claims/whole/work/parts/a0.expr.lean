/-! Layer C: both sides go through an E alike -/
/-- both have failed alike -/
def Fld (p' r' : Mem) : Prop := ∃ c q, mI p' 773 22 = nj c ∧ mI p' 774 22 = nj q ∧ Rf r' c q
section Ex
variable (N : Nat) (kd pl : Nat → Nat) (x1 : Option Nat) (x2 : Int32) (c cm : Bool) (S0 : List Int32) (B : List Nat) (c0 : Nat) (p0 r0 : Mem) (t0 i0 : Nat)
/-- the E is whole; the class has yet to settle V -/
def XGood (p' r' : Mem) (t' i' : Nat) (L : List (Nat × Nat)) (V : List Nat) : Prop :=
  Toks p' r' N kd pl ∧ t0 < t' ∧ t' < N ∧ mI p' 779 22 = nj t' ∧ mI r' 1547 0 = nj t' ∧ mI r' 1549 0 = 0 ∧ Fs p' c 3 0 cm (S0 ++ L.map enN) (V.map eW ++ B) ∧ cnt V = 0 ∧ OpV V ∧ mI r' 1548 0 = 0 ∧ mI r' 1581 0 = nj (c0 + (L ++ cdV V).length) ∧ Seg r' c0 (L ++ cdV V) ∧ wfL (L ++ cdV V) 0 1 ∧ S0.length + L.length + V.length + B.length ≤ i' ∧ i' + t0 = t' + i0 ∧ i' < t' ∧ ¬ (6 ≤ kd t' ∧ kd t' ≤ 9) ∧ Cf p0 p' ∧ Rx c0 r0 r'
def XOut (y : Option (Int32 × Mem)) (z : Option (Unit × Mem)) : Prop :=
  (∃ p' r' t' i' g' L V, y = P_Parser_takeFormula_10 g' x1 x2 (nj i') p' ∧ z = some ((), r') ∧ g' + i' = FU ∧ XGood N kd pl c cm S0 B c0 p0 r0 t0 i0 p' r' t' i' L V) ∨
  (∃ p' r', y = some (0, p') ∧ z = some ((), r') ∧ Fld p' r' ∧ Cg p0 p' ∧ Rx c0 r0 r')
/-- within an E -/
def Jx (p r : Mem) (t i st : Nat) (L : List (Nat × Nat)) (V : List Nat) : Prop :=
  Toks p r N kd pl ∧ t < N ∧ mI p 779 22 = nj t ∧ mI r 1547 0 = nj t ∧ mI r 1549 0 = 0 ∧ Fs p c st (cnt V) cm (S0 ++ L.map enN) (V.map eW ++ B) ∧ Es r c0 L V ∧ OpV V ∧ wl V ∧ cnt V ≤ 6 ∧ wfL L 0 (V.length - cnt V + if st = 3 then 1 else 0) ∧ S0.length + L.length + V.length + B.length ≤ i ∧ i + t0 = t + i0 ∧ i < t ∧ (t0 < t ∨ st ≠ 3) ∧ t0 ≤ t ∧ Cf p0 p ∧ Rx c0 r0 r
end Ex
section Xf
variable {r : Mem} {c q : Nat} {k12 : Int32 → Int32 → Mem → Option (Unit × Mem)} {k23 : Int32 → Mem → Option (Unit × Mem)} {y : Int32}
theorem unit_f (h : Rf r c q) : R_unit r = some ((), r) := by
  unfold R_unit R_unit_88
  rw [is_f h, bn_s, if_pos rfl, if_neg h.ne.1, fail_f h, bn_s]
theorem R84_f (h : Rf r c q) : R_expression_84 k12 y r = some ((), r) := by
  unfold R_expression_84
  rw [unit_f h, bn_s, if_neg h.ne.2.1]
theorem R23_f {fu : Nat} (h : Rf r c q) : R_expression_23 k12 (fu + 1) y r = some ((), r) := by
  rw [R_expression_23.eq_2, is_f h, bn_s, if_pos rfl, R84_f h]
theorem R12_f {n : Nat} {z : Int32} (h : Rf r c q) : R_expression_12 (n + 1) y z r = some ((), r) := by
  rw [R_expression_12.eq_2]
  by_cases w : z = 0
  · rw [if_pos w]
  · rw [if_neg w, if_neg h.ne.1]
theorem R46_f {l : Nat} (h : Rf r c q) (hl : mI r 1590 0 = nj l) (h60 : l < 60) : ∃ r', R_expression_46 k12 k23 y r = k23 y r' ∧ Rf r' c q ∧ ∀ C, Rx C r r' := by
  unfold R_expression_46
  rw [vb_e]
  have h1 : Rf (sI r 1548 0 (mI r 1548 0 + 1)) c q := ⟨h.1, by rw [k_mI_sI (by omega)]; exact h.2.1, by rw [k_mI_sI (by omega)]; exact h.2.2.1, by rw [k_mI_sI (by omega)]; exact h.2.2.2⟩
  obtain ⟨r1, a1, a2, a3⟩ := next_f h1
  have e9 : mI r1 1590 0 = nj l := by
    have h1' := h1.2.2.2
    obtain ⟨u, u1, u2⟩ := h1'
    unfold R_next at a1
    rw [u2] at a1
    by_cases z : u = 500
    · rw [if_pos (by rw [nj_eq_l (by omega) (by omega)]; exact z), fail_f h1, bn_s] at a1
      have := (Prod.mk.inj (Option.some.inj a1)).2
      rw [← this, k_mI_sI (by omega)]
      exact hl
    · rw [if_neg (by rw [nj_eq_l (by omega) (by omega)]; exact z), vb_e] at a1
      have := (Prod.mk.inj (Option.some.inj a1)).2
      rw [← this, k_mI_sI (by omega), k_mI_sI (by omega)]
      exact hl
  rw [a1, bn_s, e9, inb_nj (by omega), gd_t (decide_eq_true (by omega)), vb_e, vb_e]
  refine ⟨_, rfl, ⟨a2.1, by rw [k_mI_sI (by omega), k_mI_wI]; exact a2.2.1, by rw [k_mI_sI (by omega), k_mI_wI]; exact a2.2.2.1, by rw [k_mI_sI (by omega), k_mI_wI]; exact a2.2.2.2⟩, fun C => (((Rx.rfl.sI (by decide)).trans (a3 C)).wI (by decide) (Or.inr rfl)).sI (by decide)⟩
theorem R191_f {C : Nat} {L : List (Nat × Nat)} {V : List Nat} (h : Rf r c q) (he : Es r C L V) (ho : OpV V) (hl : V.length ≤ 60) (hC : C + L.length + V.length < 12500) : ∃ r', R_expression_191 y r = some ((), r') ∧ Rf r' c q ∧ Rx C r r' := by
  obtain ⟨r', a1, a2, a3, a4, a5, a6⟩ := comes_e (s := false) V L r FU he ho hl hC (by unfold FU; omega)
  have e : R_expression_204 r = some ((), r') := by
    unfold R_expression_204 R_comesOut
    have a1' : R_comesOut_0 FU 0 r = _ := a1
    rw [a1', bn_s]
  refine ⟨r', ?_, ⟨h.1, by rw [a5]; exact h.2.1, by rw [a6]; exact h.2.2.1, by rw [a4]; exact h.2.2.2⟩, a3⟩
  unfold R_expression_191
  rw [fail_f h, bn_s, e]
  split <;> rfl
theorem R96_f {fu C : Nat} {L : List (Nat × Nat)} {V : List Nat} (h : Rf r c q) (he : Es r C L V) (ho : OpV V) (hl : V.length ≤ 60) (hC : C + L.length + V.length < 12500) : ∃ r', R_expression_96 k12 (fu + 1) y r = some ((), r') ∧ Rf r' c q ∧ Rx C r r' := by
  rw [R_expression_96.eq_2, is_f h, bn_s, if_pos rfl]
  unfold R_expression_145 R_expression_186
  simp only [is_f h, bn_s, if_true]
  exact R191_f h he ho hl hC
end Xf
theorem Es.same {r r' : Mem} {C : Nat} {L : List (Nat × Nat)} {V : List Nat} (h : Es r C L V) (e1 : mI r' 1548 0 = mI r 1548 0) (e2 : mI r' 1590 0 = mI r 1590 0) (e3 : aI r' 36 = aI r 36) (e4 : mI r' 1581 0 = mI r 1581 0) (e5 : aI r' 33 = aI r 33) (e6 : aI r' 34 = aI r 34) : Es r' C L V := by
  unfold Es Seg
  rw [e1, e2, e3, e4, e5, e6]
  exact h
theorem Es.push {r r' : Mem} {C : Nat} {L : List (Nat × Nat)} {V : List Nat} {v : Nat} (h : Es r C L V) (e1 : mI r' 1548 0 = nj (cnt (v :: V))) (e2 : mI r' 1590 0 = nj (V.length + 1)) (e3 : aI r' 36 = up1 (aI r 36) V.length (nj (kM v))) (e4 : mI r' 1581 0 = mI r 1581 0) (e5 : aI r' 33 = aI r 33) (e6 : aI r' 34 = aI r 34) : Es r' C L (v :: V) := by
  refine ⟨e1, e2, ?_, by rw [e4]; exact h.2.2.2.1, by unfold Seg; rw [e5, e6]; exact h.2.2.2.2⟩
  rw [e3]
  refine ⟨?_, Stk.up h.2.2.1 (by simp)⟩
  rw [up1_ap, if_pos (by simp)]
theorem cnt_14 (V : List Nat) : cnt (14 :: V) = cnt V + 1 := by unfold cnt; rw [List.count_cons_self]
theorem cnt_ne {v : Nat} (V : List Nat) (h : v ≠ 14) : cnt (v :: V) = cnt V := by unfold cnt; rw [List.count_cons_of_ne (by omega)]
theorem var_e : ∀ k, k < 60 → 20 ≤ k → k ≤ 31 → nj k * 10000 + 0 = enN (1, k - 20) ∧ nj (kM k) - 48 = nj (k - 20) ∧ ¬ nj (kM k) < 48 ∧ ¬ 59 < nj (kM k) := by decide +kernel
theorem nvar_e : ∀ k, k < 60 → ¬ (20 ≤ k ∧ k ≤ 31) → nj (kM k) < 48 ∨ 59 < nj (kM k) := by decide +kernel
theorem int_e (v : Nat) : nj 3 * 10000 + nj v = enN (0, v) := by
  show _ = encC (nj 0) (nj v)
  unfold encC
  rw [if_pos (show nj 0 = 0 from rfl), show nj 3 * 10000 = 30000 from by decide]
theorem Toks.nxt {p r : Mem} {N t : Nat} {kd pl : Nat → Nat} (h : Toks p r N kd pl) (ht : t < N) (h2 : 2 ≤ kd t) (h5 : t < 500) : t + 1 < N := by
  obtain ⟨a, b, d, -⟩ := h
  by_cases z : t + 1 < N
  · exact z
  · rcases d with d | d
    · omega
    · rw [show N - 1 = t by omega] at d
      omega
theorem FlP.fld {p0 p p' r r' : Mem} {N t c : Nat} {kd pl : Nat → Nat} (h : FlP p p' c t) (hT : Toks p r N kd pl) (ht : t < N) (hr : Rf r' c (pl t)) : Fld p' r' := ⟨c, pl t, h.1, by rw [h.2.1]; exact (hT.2.2.2.2 t ht).2.2.2.2.1, hr⟩
theorem eW_1000 {V B : List Nat} (ho : OpV V) (hB : Bok B) : ∀ w, w ∈ V.map eW ++ B → w < 1000 := by
  intro w hw
  rcases List.mem_append.mp hw with h | h
  · obtain ⟨v, hv, rfl⟩ := List.mem_map.mp h
    have := (eW_op (ho v hv)).1
    omega
  · have := hB w h
    omega
