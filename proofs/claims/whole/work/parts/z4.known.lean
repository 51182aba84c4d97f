/-! Layer D: what the tables and String constants say where the law begins -/
def s_tm (i : Nat) : Term := Term.string "WageCourt$Lexer" ([28, 34, 36, 38].getD i 0)
def s_at (i : Nat) : Nat := [13, 82, 141, 179].getD i 0
def s_ne (i j : Nat) : Nat := if j = 1 then 136 else if j = 2 then 173 + i else 244 + i
def gvT : List Cond := flatC (Cond.and given_1 narrow_1)
theorem gv_ex : ∀ i, i < 4 → gvT[s_at i - 4]? = some (Cond.exactly (s_tm i) "java/lang/String") := by decide +kernel
theorem gv_co : ∀ i, i < 4 → gvT[s_at i - 3]? = some (Cond.eq (.field (s_tm i) "java/lang/String" "coder" "B") (.int 0)) := by decide +kernel
theorem gv_ar : ∀ i, i < 4 → gvT[s_at i - 2]? = some (Cond.arrayOf (.field (s_tm i) "java/lang/String" "value" "[B") .byte) := by decide +kernel
theorem gv_le : ∀ i, i < 4 → gvT[s_at i - 1]? = some (Cond.eq (.length (.field (s_tm i) "java/lang/String" "value" "[B")) (.int (Int32.ofNat (s_len.getD i 0)))) := by decide +kernel
theorem gv_el : ∀ i, i < 4 → ∀ j, j < s_len.getD i 0 → gvT[s_at i + j]? = some (Cond.eq (.elem (.field (s_tm i) "java/lang/String" "value" "[B") (.int (Int32.ofNat j))) (.int ((s_byt.getD i []).getD j 0))) := by decide +kernel
theorem gv_ne : ∀ i, i < 4 → ∀ j, j < 4 → i < j → gvT[s_ne i j]? = some (Cond.not (Cond.eq (s_tm i) (s_tm j))) := by decide +kernel
theorem gv_cs : gvT[4]? = some (Cond.eq (.static "java/lang/String" "COMPACT_STRINGS" "Z") (.int 1)) := by decide +kernel
theorem gv_fm : gvT[5]? = some (Cond.isRef (.static "jdk/internal/util/Preconditions" "SIOOBE_FORMATTER" "Ljava/util/function/BiFunction;")) := by decide +kernel
theorem s_in : ∀ q ∈ s_tbl, Cond.stringRef q.1 q.2.1 q.2.2 ∈ lw_tbl := by decide +kernel
theorem a_in : ∀ C ∈ [q_R2, q_R10, q_R0], Cond.arrayOver (.object C) ∈ lw_tbl := by decide +kernel
theorem q_in : ∀ q ∈ q_cl.map (fun r => (r.1, r.2.2)), Cond.instantiable q.1 q.2 ∈ lw_tbl := by decide +kernel
theorem z_in : Cond.laysStatic "java/lang/String" "COMPACT_STRINGS" "Z" ∈ lw_tbl ∧ Cond.initialized "java/lang/String" ∈ lw_tbl ∧ Cond.laysStatic "jdk/internal/util/Preconditions" "SIOOBE_FORMATTER" "Ljava/util/function/BiFunction;" ∈ lw_tbl ∧ Cond.initialized "jdk/internal/util/Preconditions" ∈ lw_tbl := by decide +kernel
theorem fm_of {args : Array Value} {s : State} {C n d : String} (h : (Cond.isRef (.static C n d)).before args s = true) : ∃ o : Option Nat, (Term.static C n d).eval args s none [] s = some (va_rf o) := by
  cases hv : (Term.static C n d).eval args s none [] s with
  | none => simp [Cond.before, Cond.holds, Cond.value, hv] at h
  | some w =>
    cases w with
    | ref a => exact ⟨some a, rfl⟩
    | null => exact ⟨none, rfl⟩
    | _ => simp [Cond.before, Cond.holds, Cond.value, hv] at h
section Kn
variable {p : Program} {s : State} {m : MethodId} {meth : Method} {c : Code} {b L : Nat} {xs : Nat → Int32}
theorem arr_K {args : Array Value} {t : FieldType} (h : (Cond.arrayClass t).before args s = true) (ht : ∀ C, t ≠ .object C) : ∃ cA, ArrOfT s cA t ∧ va_RA s cA t := by
  obtain ⟨c, k, comp, h1, h2, h3⟩ := Cond.arrayClass_spec h
  refine ⟨c, fun n z => ⟨fun k h => (by cases h), k, h2, comp, h3⟩, ?_⟩
  cases t with
  | object C => exact absurd rfl (ht C)
  | _ => exact h1
theorem arr_Q {args : Array Value} {C : String} (h : (Cond.arrayOver (.object C)).before args s = true) : ∃ cA, ArrOfT s cA (.object C) ∧ va_RA s cA (.object C) := by
  obtain ⟨comp, c, k, h1, h2, h3, h4, h5⟩ := Cond.arrayOver_spec h
  exact ⟨c, fun n z => ⟨fun k h => (by cases h), k, h3, comp, h4⟩, k, comp, h3, h4, h1, h5⟩
/-- the machine's ids and addresses -/
theorem known (C0 : lw_At p s m meth c b L xs) : ∃ G : GG, Lx G p s m meth c b L xs := by
  obtain ⟨-, -, -, -, -, hts, -, -, -, hgv⟩ := id C0
  have hg : ∀ w ∈ g_tbl, w.before #[Value.ref b] s = true := fun w hw => hts w (by
    unfold g_tbl at hw
    exact (List.mem_filter.mp hw).1)
  have hs : ∀ c ∈ gvT, c.before #[Value.ref b] s = true := flat_of_before _ hgv
  have ha : ∀ {n : Nat} {c : Cond}, gvT[n]? = some c → c.before #[Value.ref b] s = true := fun h => hs _ (List.mem_of_getElem? h)
  have hk : ∀ ci : Nat, ∃ x : ClassId × (Nat → Nat), ∀ q, q_cl[ci]? = some q → u_Kn s q.1 q.2.1 q.2.2 x.1 x.2 := by
    intro ci
    cases hq : q_cl[ci]? with
    | none => exact ⟨(0, fun _ => 0), fun q h => by cases h⟩
    | some q =>
      obtain ⟨cC, iS, h⟩ := u_known hg (q_ok ci q hq).1 (hts _ (q_in (q.1, q.2.2) (List.mem_map.mpr ⟨q, List.mem_of_getElem? hq, rfl⟩)))
      refine ⟨(cC, iS), fun q' h' => ?_⟩
      cases h'
      exact h
  obtain ⟨t0, ha0⟩ := arr_K (hg _ lw_arr_int) (fun C h => by cases h)
  obtain ⟨t1, ha1⟩ := arr_K (hg _ lw_arr_byte) (fun C h => by cases h)
  obtain ⟨t2, ha2⟩ := arr_K (hg _ lw_arr_boolean) (fun C h => by cases h)
  obtain ⟨t3, ha3⟩ := arr_K (hg _ lw_arr_long) (fun C h => by cases h)
  have o4 := hts _ (a_in q_R2 (by simp))
  have o5 := hts _ (a_in q_R10 (by simp))
  have o6 := hts _ (a_in q_R0 (by simp))
  obtain ⟨t4, ha4⟩ := arr_Q o4
  obtain ⟨t5, ha5⟩ := arr_Q o5
  obtain ⟨t6, ha6⟩ := arr_Q o6
  obtain ⟨adK, adV, hS, hev⟩ := vk_Sof (args := #[Value.ref b]) (s := s) (N := 4) (tm := s_tm) (len := s_len) (byt := s_byt) (A := fun q => s.heap.size ≤ q) (fun i hi => by have := s_l64 i hi; omega)
    (fun i hi => ha (gv_ex i hi)) (fun i hi => ha (gv_co i hi)) (fun i hi => ha (gv_ar i hi)) (fun i hi => ha (gv_le i hi)) (fun i hi j hj => ha (gv_el i hi j hj))
    (fun i j hi hj hn => by
      rcases Nat.lt_or_ge i j with h | h
      · exact Or.inl (ha (gv_ne i hi j hj h))
      · exact Or.inr (ha (gv_ne j hj i hi (by omega)))) (fun a h => Nat.not_le.mpr h)
  obtain ⟨fo, hfo⟩ := fm_of (ha gv_fm)
  have hZ1 := va_Zof (A := fun q => s.heap.size ≤ q) (hts _ z_in.1) (hts _ z_in.2.1) (va_eqi (ha gv_cs)) (fun a h => Nat.not_le.mpr h)
  have hZ2 := va_Zof (A := fun q => s.heap.size ≤ q) (hts _ z_in.2.2.1) (hts _ z_in.2.2.2) hfo (fun a h => Nat.not_le.mpr h)
  obtain ⟨gS, hgS⟩ : ∃ gS : Nat → Nat, gS = fun i => if i < 4 then adK i else if i < 8 then adV (i - 4) else if i = 8 then fo.getD 0 else if fo.isSome then 0 else 1 := ⟨_, rfl⟩
  have g1 : ∀ i, i < 4 → gS i = adK i := fun i hi => by rw [hgS]; exact if_pos hi
  have g2 : ∀ j, j < 4 → gS (j + 4) = adV j := fun j hj => by
    rw [hgS]
    show (if j + 4 < 4 then adK (j + 4) else if j + 4 < 8 then adV (j + 4 - 4) else if j + 4 = 8 then fo.getD 0 else if fo.isSome then 0 else 1) = adV j
    rw [if_neg (by omega), if_pos (by omega), Nat.add_sub_cancel]
  have g3 : (if gS 9 = 1 then none else some (gS 8)) = fo := by
    rw [hgS]
    cases fo <;> rfl
  refine ⟨((fun ci => (Classical.choose (hk ci)).1, fun ci => (Classical.choose (hk ci)).2), (fun j => match j with | 0 => t0 | 1 => t1 | 2 => t2 | 3 => t3 | 4 => t4 | 5 => t5 | _ => t6), gS, adV), C0, hg, fun α hα => ?_⟩
  have hn : ∀ q, Ad α q → s.heap.size ≤ q := fun q ⟨i, h⟩ => by rw [h]; exact hα i
  refine ⟨⟨fun ci q hq => Classical.choose_spec (hk ci) q hq, fun k q hq => ?_⟩, fun q hq => va_Nw.of rfl (hts _ (n_tbl_in q hq)), ⟨va_AO.of o4, va_AO.of o5, va_AO.of o6⟩, fun j q hq => ?_, ?_, fun j hj => g2 j hj, ?_, ?_⟩
  · have h7 : k < 7 := (List.getElem?_eq_some_iff.mp hq).1
    rcases (show k = 0 ∨ k = 1 ∨ k = 2 ∨ k = 3 ∨ k = 4 ∨ k = 5 ∨ k = 6 by omega) with rfl | rfl | rfl | rfl | rfl | rfl | rfl
    · cases hq; exact ha0
    · cases hq; exact ha1
    · cases hq; exact ha2
    · cases hq; exact ha3
    · cases hq; exact ha4
    · cases hq; exact ha5
    · cases hq; exact ha6
  · have hw := hts _ (s_in q (List.mem_of_getElem? hq))
    have hj : j < 4 := (List.getElem?_eq_some_iff.mp hq).1
    refine vk_R.of hw ?_
    show (Term.string q.1 q.2.1).eval #[Value.ref b] s none [] s = some (.ref (gS j))
    rw [g1 j hj]
    have he := hev j hj
    rcases (show j = 0 ∨ j = 1 ∨ j = 2 ∨ j = 3 by omega) with rfl | rfl | rfl | rfl
    · cases hq; exact he
    · cases hq; exact he
    · cases hq; exact he
    · cases hq; exact he
  · have h4 : vk_S 4 s_len s_byt gS adV (fun q => s.heap.size ≤ q) s s.heap := ⟨fun i hi => by rw [g1 i hi]; exact hS.1 i hi, fun i j hi hj he => hS.2 i j hi hj (by rw [← g1 i hi, ← g1 j hj]; exact he)⟩
    exact h4.narrow hn
  · exact hZ1.narrow hn
  · show va_Z _ _ _ (va_rf (if gS 9 = 1 then none else some (gS 8))) _ _ _
    rw [g3]
    exact hZ2.narrow hn
end Kn
