/-! Layer C: a good TEXT: where FACTS and TEXTS lie -/
section Ln
variable {p p' : Mem} {D D' : Dt} {x fc k s0 v aw nc nm i0 : Nat} {it fa ta ia sa ca : Nat → Nat} {od : List Nat} {o : Option Nat}
def iaN (x : Nat) (ia it : Nat → Nat) : Nat → Nat := fun i => if 30 * x ≤ i then it (i - 30 * x) else ia i
theorem iaN_o {q j : Nat} (h : q < x) (hj : j < 30) : iaN x ia it (30 * q + j) = ia (30 * q + j) := if_neg (by omega)
theorem iaN_n {j : Nat} : iaN x ia it (30 * x + j) = it j := by
  unfold iaN
  rw [if_pos (by omega), show 30 * x + j - 30 * x = j by omega]
theorem lfact_new (h : Nt D D' x fc k s0 v aw nm) (T : Top p) (L : Lk fa ta ia sa ca od p D) (WF : WFact D nc) (F : FinP p p' D x fc k s0 v it ta od o i0) : LFact (up1 fa fc (mC p + 6)) (up1 ta x (mC p + 1)) p' D' := by
  obtain ⟨N, n1, n2, n3, n4, n5, n6, n7, n8, n9, n10, n11, n12, n13, n14, n15, n16, n17, n18, n19, n20⟩ := h
  obtain ⟨⟨CC, T', c8, -⟩, -, -, -, ⟨f1, f2, f3, f4, f5⟩, g1, g2, g3, -⟩ := F
  have T1 := T.1
  have hx := N.1
  have hf := N.2.2.1
  have hf' := N.2.2.2.1
  have hx23 := N.2.2.2.2.2.2.1
  have ne : ∀ n : Nat, n < 100 → 4 ≤ n → ¬ nj s0 = nj n := fun n h1 h2 => by rw [nj_inj (by omega) (by omega)]; omega
  have hlt : ∀ i, i < fc → fa i < mC p := fun i hi => T.lt (by rw [(L.1.2 i (by omega)).2.1.2.1]; decide)
  refine ⟨by rw [hf']; exact g1, fun i hi => ?_⟩
  rw [hf'] at hi
  rw [g3]
  by_cases z : i = fc
  · subst z
    rw [up1_eq, up1_eq]
    refine ⟨rfl, ⟨by omega, f1, f2, f3, by rw [n18]; exact f4, fun w => ?_, fun w => ?_, fun w => ?_, fun w => ?_, fun w => ?_, fun w => ?_⟩, fun _ => by rw [n19, ix_nj (by omega), up1_eq]; exact f5, fun j hj e => ?_⟩
    · rw [n18, nj_l_le (by omega) (by omega)] at w
      have w' : 4 ≤ s0 := w
      omega
    · rw [n18] at w; exact absurd w (ne 4 (by omega) (by omega))
    · rw [n18] at w
      rcases w with w | w
      · exact absurd w (ne 5 (by omega) (by omega))
      · exact absurd w (ne 9 (by omega) (by omega))
    · rw [n18] at w; exact absurd w (ne 6 (by omega) (by omega))
    · rw [n18] at w
      rcases w with w | w
      · exact absurd w (ne 7 (by omega) (by omega))
      · exact absurd w (ne 8 (by omega) (by omega))
    · rw [n18] at w; exact absurd w (ne 10 (by omega) (by omega))
    · by_cases q : j = i
      · exact q.symm
      · rw [up1_ne q] at e
        have := hlt j (by omega)
        omega
  · have hi' : i < fc := by omega
    obtain ⟨z1, z2, z3, z4⟩ := L.1.2 i (by omega)
    have l1 := hlt i hi'
    rw [up1_ne z, up1_ne z]
    have eF : ∀ a, 44 ≤ a → a ≤ 48 → D'.1 a i = D.1 a i := fun a h1 h2 => N.fo h1 h2 hi'
    have e49 : ∀ j, D'.1 49 j = D.1 49 j := fun j => N.2.2.2.2.2.1 49 j (by omega) (by omega) (Or.inl rfl)
    have z2' := z2.Ch T CC (fun f hf => by simp only [List.mem_cons, List.not_mem_nil, or_false]; omega) (by have := z2.1; simp only [List.mem_cons, List.not_mem_nil, or_false]; omega) nil_no
    refine ⟨z1, ?_, fun w => ?_, fun j hj e => ?_⟩
    · unfold FactAt at z2' ⊢
      rw [eF 44 (by omega) (by omega), eF 45 (by omega) (by omega), eF 46 (by omega) (by omega), eF 47 (by omega) (by omega), eF 48 (by omega) (by omega)]
      simp only [e49]
      exact z2'
    · rw [eF 44 (by omega) (by omega)] at w
      rw [eF 45 (by omega) (by omega), CC.r (by decide) l1, z3 w]
      obtain ⟨s, q1, q2, q3, -⟩ := WF i (by omega)
      rw [q2, nj_lt_l (by omega) (by omega)] at w
      obtain ⟨q, r1, r2, -⟩ := q3 w
      rw [r2, ix_nj (by omega), up1_ne (by omega)]
    · by_cases q : j = fc
      · rw [q, up1_eq] at e; omega
      · rw [up1_ne q] at e
        exact z4 j (by omega) e
theorem ltext_new (h : Nt D D' x fc k s0 v aw nm) (T : Top p) (L : Lk fa ta ia sa ca od p D) (W : WText D nc) (F : FinP p p' D x fc k s0 v it ta od o i0) (ho : o = if s0 = 0 then none else some (ta aw)) (h10 : mI p 785 22 = D'.1 10 x) (h11 : mI p 786 22 = D'.1 11 x) : LText (up1 ta x (mC p + 1)) (iaN x ia it) p' D' := by
  obtain ⟨N, n1, n2, n3, n4, n5, n6, n7, n8, n9, n10, n11, n12, n13, n14, n15, n16, n17, n18, n19, n20⟩ := h
  obtain ⟨⟨CC, T', c8, -⟩, -, -, ⟨t1, t2, t3, t4, t5, t6, t7, t8, t9, t10, t11, t12, t13, t14, t15, t16, t17, t18, t19, t20, t21, t22, t23⟩, -, g1, g2, -⟩ := F
  have T1 := T.1
  have hx := N.1
  have hx' := N.2.1
  have hx23 := N.2.2.2.2.2.2.1
  have e0 : (nj s0 = 0) = (s0 = 0) := nj_eq_l (by omega) (by omega)
  have e3 : (nj s0 = 3) = (s0 = 3) := nj_eq_l (by omega) (by omega)
  have hlt : ∀ q, q < x → ta q < mC p := fun q hq => T.lt (by rw [(L.2.1.2.1 q (by omega)).2.1]; decide)
  refine ⟨by rw [hx']; exact g2, fun q hq => ?_, fun q l h1 h2 e => ?_, fun q hq => ?_⟩
  · rw [hx'] at hq
    by_cases z : q = x
    · subst z
      rw [up1_eq]
      unfold TextAt
      rw [n2, n3, n9, n10, n16, ix_nj (by omega), ix_nj (by omega), ← h10, ← h11, show mC p + 1 - 1 = mC p by omega]
      refine ⟨by omega, t1, t2, t3, t4, t5, t6, ?_, t9, t10, t11, fun j hj => by rw [t12 j hj, iaN_n], t13, t14, t15, t16, t17, t18, t19, t20, fun w => t21 (w.elim (fun q => Or.inl (e0.mp q)) (fun q => Or.inr (e3.mp q)))⟩
      rw [t8, ho]
      by_cases w : s0 = 0
      · rw [if_pos w, if_pos (e0.mpr w)]
      · rw [if_neg w, if_neg (fun q => w (e0.mp q)), up1_ne (by have := n15 w; omega)]
    · have hq' : q < x := by omega
      have TA := L.2.1.2.1 q (by omega)
      have TA' := TA.Ch T CC (by decide) (by have := TA.1; simp only [List.mem_cons, List.not_mem_nil, or_false]; omega) nil_no
      have eT : ∀ a, 8 ≤ a → a ≤ 14 → D'.1 a q = D.1 a q := fun a h1 h2 => N.to h1 h2 hq'
      obtain ⟨-, -, -, -, -, -, ⟨j, z1, z2, z3, z4, z5, z6⟩, ⟨n, y1, y2⟩⟩ := W.2.2.1 q (by omega)
      rw [up1_ne z]
      unfold TextAt at TA' ⊢
      rw [eT 8 (by omega) (by omega), eT 9 (by omega) (by omega), eT 10 (by omega) (by omega), eT 11 (by omega) (by omega), eT 12 (by omega) (by omega), eT 13 (by omega) (by omega), eT 14 (by omega) (by omega)]
      obtain ⟨g1, g2, g3, g4, g5, g6, g7, g8, g9, g10, g11, g12, g13⟩ := TA'
      refine ⟨g1, g2, g3, g4, g5, g6, g7, ?_, g9, g10, g11, fun j' hj' => ?_, g13⟩
      · rw [g8, z2, ix_nj (by omega), up1_ne (by omega)]
      · rw [g12 j' hj', iaN_o hq' (by rw [y2, ix_nj (by omega)] at hj'; omega)]
  · rw [hx'] at h1 h2
    by_cases z1 : q = x
    · by_cases z2 : l = x
      · omega
      · rw [z1, up1_eq, up1_ne z2] at e
        have := hlt l (by omega)
        omega
    · by_cases z2 : l = x
      · rw [z2, up1_eq, up1_ne z1] at e
        have := hlt q (by omega)
        omega
      · rw [up1_ne z1, up1_ne z2] at e
        exact L.2.1.2.2.1 q l (by omega) (by omega) e
  · rw [hx'] at hq
    by_cases z : q = x
    · subst z
      rw [up1_eq]
      exact t22
    · rw [up1_ne z]
      obtain ⟨-, -, -, -, -, -, -, -, -, -, -, -, -, -, -, -, -, -, -, g20, -⟩ := L.2.1.2.1 q (by omega)
      rw [CC.n (T.lt (by rw [g20]; decide))]
      exact L.2.1.2.2.2 q (by omega)
theorem lord_new (h : Nt D D' x fc k s0 v aw nm) (L : Lk fa ta ia sa ca od p D) (W : WText D nc) (F : FinP p p' D x fc k s0 v it ta od o i0) (h11 : mI p 786 22 = D'.1 11 x) : LOrd (up1 ta x (mC p + 1)) (insO od i0 x) p' D' := by
  obtain ⟨N, n1, n2, n3, n4, n5, n6, n7, ⟨d, d1, d2⟩, -⟩ := h
  obtain ⟨-, -, -, -, -, g1, g2, g3, g4, g5, g6, g7⟩ := F
  have hx := N.1
  have hx' := N.2.1
  have hx23 := N.2.2.2.2.2.2.1
  obtain ⟨o1, o2, o3, o4⟩ := L.2.2.1
  have hl : od.length = x := by omega
  rw [h11, d2] at g6 g7
  have e11 : ∀ q, q < x → D'.1 11 q = D.1 11 q := fun q hq => N.to (by omega) (by omega) hq
  have hm : ∀ q, q ∈ od → q < x := fun q hq => by have := (o3 q).mp hq; omega
  have hlt : ∀ j q, od[j]? = some q → j < x := fun j q hq => by
    have := (List.getElem?_eq_some_iff.mp hq).1
    omega
  refine ⟨by unfold insO; rw [List.length_append, List.length_cons, List.length_take, List.length_drop]; omega, fun j q hq => ?_, fun q => ?_, ?_⟩
  · rw [insO_g hl g5] at hq
    have hj : j ≤ x := by
      by_cases z : j < i0
      · omega
      · rw [if_neg z] at hq
        by_cases w : j = i0
        · omega
        · rw [if_neg w] at hq
          have := hlt _ _ hq
          omega
    rw [g4 j hj]
    by_cases z : j < i0
    · rw [if_pos z] at hq ⊢
      rw [o2 j q hq, up1_ne (by have := hm q (List.mem_of_getElem? hq); omega)]
    · rw [if_neg z] at hq ⊢
      by_cases w : j = i0
      · rw [if_pos w] at hq ⊢
        cases hq
        rw [up1_eq]
      · rw [if_neg w] at hq ⊢
        rw [o2 (j - 1) q hq, up1_ne (by have := hm q (List.mem_of_getElem? hq); omega)]
  · rw [insO_m, hx']
    constructor
    · rintro (e | e)
      · omega
      · have := hm q e; omega
    · intro e
      by_cases z : q = x
      · exact Or.inl z
      · exact Or.inr ((o3 q).mpr (by omega))
  · refine insO_p (o4.imp_of_mem fun ha hb hR => ?_) (fun a ha => ?_) (fun a ha => ?_)
    · rw [e11 _ (hm _ ha), e11 _ (hm _ hb)]; exact hR
    · obtain ⟨j, hj⟩ := List.getElem?_of_mem ha
      have hj0 : j < i0 := by
        have := (List.getElem?_eq_some_iff.mp hj).1
        rw [List.length_take] at this
        omega
      rw [List.getElem?_take_of_lt hj0] at hj
      have hax := hm a (List.mem_of_getElem? hj)
      rcases g6 with e | ⟨q, q1, q2⟩
      · omega
      · have hqx := hm q (List.mem_of_getElem? q1)
        obtain ⟨-, -, ⟨da, a1, a2⟩, -⟩ := W.2.2.1 a (by omega)
        obtain ⟨-, -, ⟨dq, b1, b2⟩, -⟩ := W.2.2.1 q (by omega)
        rw [b2, nj_le (by omega) (by omega)] at q2
        have hle : da ≤ dq := by
          by_cases w : j = i0 - 1
          · rw [w, q1] at hj
            cases hj
            rw [a2, nj_inj (by omega) (by omega)] at b2
            omega
          · have hp := List.pairwise_iff_getElem.mp o4 j (i0 - 1) (by omega) (by omega) (by omega)
            have ea : od[j]'(by omega) = a := by
              have := List.getElem?_eq_getElem (l := od) (i := j) (by omega)
              rw [this] at hj
              exact Option.some.inj hj
            have eq : od[i0 - 1]'(by omega) = q := by
              have := List.getElem?_eq_getElem (l := od) (i := i0 - 1) (by omega)
              rw [this] at q1
              exact Option.some.inj q1
            rw [ea, eq, a2, b2, nj_lt (by omega) (by omega), nj_inj (by omega) (by omega)] at hp
            omega
        rw [e11 a hax, a2, d2, nj_lt (by omega) (by omega), nj_inj (by omega) (by omega)]
        omega
    · obtain ⟨j, hj⟩ := List.getElem?_of_mem ha
      rw [List.getElem?_drop] at hj
      have hax := hm a (List.mem_of_getElem? hj)
      have := g7 (i0 + j) a (by omega) hj
      obtain ⟨-, -, ⟨da, a1, a2⟩, -⟩ := W.2.2.1 a (by omega)
      rw [a2, nj_le (by omega) (by omega)] at this
      rw [e11 a hax, a2, d2, nj_lt (by omega) (by omega)]
      omega
end Ln
