/-! Layer C: a TEXT enters the ledger -/
section En
variable {fa ta ia : Nat → Nat} {od : List Nat} {m0 : Mem} {D : Dt} {x t : Nat} {fr : Int32}
/-- the rows from i on are shifted -/
def Sh (x i : Nat) (m0 q : Mem) : Prop := Ch [] [15] nil m0 q ∧ mC q = mC m0 ∧ mS q = mS m0 ∧ (∀ j, j ≤ i → aR q 15 j = aR m0 15 j) ∧ ∀ j, i < j → j ≤ x → aR q 15 j = aR m0 15 (j - 1)
theorem enter53_e (T : Top m0) (L2 : LText ta ia m0 D) (L3 : LOrd ta od m0 D) (hx : D.2.1 = x) (hx2 : x ≤ 23) (ht : mT m0 t = 11) (hfr : mI m0 1284 t = fr) : ∀ (i fu : Nat) (q : Mem), i ≤ x → i < fu → Sh x i m0 q → (∀ j k, i ≤ j → od[j]? = some k → ¬ D.1 11 k ≤ fr) →
    ∃ i0 q', i0 ≤ i ∧ P_Ledger_enter_53 fu (some t) (nj i) q = some ((), sI (wR q' 15 i0 (some t)) 515 13 (nj (x + 1))) ∧ Sh x i0 m0 q' ∧ (i0 = 0 ∨ ∃ k, od[i0 - 1]? = some k ∧ D.1 11 k ≤ fr) ∧ ∀ j k, i0 ≤ j → od[j]? = some k → ¬ D.1 11 k ≤ fr
  | 0, fu + 1, q, _, _, hS, hg => by
    have T1 := T.1
    have lt : t < mC m0 := T.lt (by rw [ht]; decide)
    rw [P_Ledger_enter_53.eq_2, if_pos (by decide)]
    unfold P_Ledger_enter_95
    rw [inb_nj (by omega), gd_t (decide_eq_true (by omega)), go_s (by rw [hS.1.t lt]; exact ht), vb_e, vb_e, ix_nj (by omega), k_mI_wR, hS.1.i (by decide) (by omega), L2.1, hx, nj_add_l]
    exact ⟨0, q, Nat.le_refl _, rfl, hS, Or.inl rfl, hg⟩
  | i + 1, fu + 1, q, hi, hf, hS, hg => by
    have T1 := T.1
    have lt : t < mC m0 := T.lt (by rw [ht]; decide)
    have e1 : nj (i + 1) - 1 = nj i := nj_sub_l (by omega)
    obtain ⟨k, hk⟩ : ∃ k, od[i]? = some k := ⟨od[i]'(by rw [L3.1]; omega), List.getElem?_eq_getElem _⟩
    have hkx : k < D.2.1 := (L3.2.2.1 k).mp (List.mem_of_getElem? hk)
    have tk := L2.2.1 k hkx
    have lk : ta k < mC m0 := T.lt (by rw [tk.2.1]; decide)
    have e15 : aR q 15 i = some (ta k) := by rw [hS.2.2.2.1 i (by omega)]; exact L3.2.1 i k hk
    have t11 : mT q (ta k) = 11 := by rw [hS.1.t lk]; exact tk.2.1
    have t11' : mT q t = 11 := by rw [hS.1.t lt]; exact ht
    have f1 : mI q 1284 (ta k) = D.1 11 k := by rw [hS.1.i (by decide) lk]; exact tk.2.2.2.2.2.2.1
    have f2 : mI q 1284 t = fr := by rw [hS.1.i (by decide) lt]; exact hfr
    rw [P_Ledger_enter_53.eq_2, if_neg (by rw [nj_le_l (by omega) (by omega)]; omega), e1, inb_nj (by omega), gd_t (decide_eq_true (by omega)), ix_nj (by omega), e15, gs_s, gt_t t11, gs_s, gt_t t11', f1, f2]
    by_cases z : D.1 11 k ≤ fr
    · rw [if_pos z]
      unfold P_Ledger_enter_95
      rw [inb_nj (by omega), gd_t (decide_eq_true (by omega)), go_s t11', vb_e, vb_e, ix_nj (by omega), k_mI_wR, hS.1.i (by decide) (by omega), L2.1, hx, nj_add_l]
      exact ⟨i + 1, q, Nat.le_refl _, rfl, hS, Or.inr ⟨k, hk, z⟩, hg⟩
    · have e2 : nj (i + 1) + (-1) = nj i := by rw [← e1]; grind
      rw [if_neg z, gd_t (decide_eq_true (by omega)), inb_nj (by omega), gd_t (decide_eq_true (by omega)), go_s t11, vb_e, vb_e, e2, ix_nj (by omega)]
      have hS' : Sh x i m0 (wR q 15 (i + 1) (some (ta k))) := by
        obtain ⟨s1, s2, s3, s4, s5⟩ := hS
        refine ⟨s1.wR (Or.inl (by decide)), s2, s3, fun j hj => ?_, fun j j1 j2 => ?_⟩
        · rw [k_aR_wR_e, up1_ap, if_neg (by omega)]; exact s4 j (by omega)
        · rw [k_aR_wR_e, up1_ap]
          by_cases w : j = i + 1
          · rw [if_pos w, w, show i + 1 - 1 = i by omega]
            exact (L3.2.1 i k hk).symm
          · rw [if_neg w]; exact s5 j (by omega) j2
      obtain ⟨i0, q', a1, a2, a3⟩ := enter53_e T L2 L3 hx hx2 ht hfr i fu _ (by omega) (by omega) hS' (fun j k' hj hk' => by
        by_cases w : j = i
        · rw [w, hk] at hk'
          cases hk'
          exact z
        · exact hg j k' (by omega) hk')
      exact ⟨i0, q', by omega, a2, a3⟩
/-- where the new TEXT stands in the order -/
def insO (od : List Nat) (i0 x : Nat) : List Nat := od.take i0 ++ x :: od.drop i0
theorem insO_g {i0 j : Nat} (hl : od.length = x) (hi : i0 ≤ x) : (insO od i0 x)[j]? = if j < i0 then od[j]? else if j = i0 then some x else od[j - 1]? := by
  unfold insO
  by_cases z : j < i0
  · rw [if_pos z, List.getElem?_append_left (by rw [List.length_take]; omega), List.getElem?_take_of_lt z]
  · rw [if_neg z, List.getElem?_append_right (by rw [List.length_take]; omega), List.length_take, hl, show min i0 x = i0 by omega]
    by_cases w : j = i0
    · rw [if_pos w, w, Nat.sub_self]; rfl
    · rw [if_neg w, show j - i0 = (j - i0 - 1) + 1 by omega, List.getElem?_cons_succ, List.getElem?_drop, show i0 + (j - i0 - 1) = j - 1 by omega]
theorem insO_m {i0 k : Nat} : k ∈ insO od i0 x ↔ k = x ∨ k ∈ od := by
  unfold insO
  rw [List.mem_append, List.mem_cons]
  have : k ∈ od ↔ k ∈ od.take i0 ∨ k ∈ od.drop i0 := by
    rw [← List.mem_append, List.take_append_drop]
  rw [this]
  constructor
  · rintro (h | h | h)
    · exact Or.inr (Or.inl h)
    · exact Or.inl h
    · exact Or.inr (Or.inr h)
  · rintro (h | h | h)
    · exact Or.inr (Or.inl h)
    · exact Or.inl h
    · exact Or.inr (Or.inr h)
theorem insO_p {R : Nat → Nat → Prop} {i0 : Nat} (h : od.Pairwise R) (h1 : ∀ a, a ∈ od.take i0 → R a x) (h2 : ∀ a, a ∈ od.drop i0 → R x a) : (insO od i0 x).Pairwise R := by
  unfold insO
  rw [List.pairwise_append, List.pairwise_cons]
  rw [← List.take_append_drop i0 od, List.pairwise_append] at h
  refine ⟨h.1, ⟨h2, h.2.1⟩, fun a ha b hb => ?_⟩
  rcases List.mem_cons.mp hb with e | e
  · rw [e]; exact h1 a ha
  · exact h.2.2 a ha b e
/-- the class enters a TEXT -/
theorem enter_e {fc : Nat} {s n : Int32} (T : Top m0) (L2 : LText ta ia m0 D) (L3 : LOrd ta od m0 D) (hx : D.2.1 = x) (hx2 : x ≤ 23) (h514 : mI m0 514 13 = nj fc) (hfc : fc < 160) (ht : mT m0 t = 11) (hs : mI m0 1280 t = s) (hn : mI m0 1282 t = n) (hfr : mI m0 1284 t = fr) :
    ∃ i0 p', i0 ≤ x ∧ P_Ledger_enter (some t) m0 = some ((), p') ∧ Ch [514, 515] [14, 15] nil m0 p' ∧ mC p' = mC m0 + 2 ∧ mS p' = mS m0 + 7 ∧ mI p' 514 13 = nj (fc + 1) ∧ mI p' 515 13 = nj (x + 1) ∧ aR p' 14 = up1 (aR m0 14) fc (some (mC m0)) ∧ (∀ j, j ≤ x → aR p' 15 j = if j < i0 then aR m0 15 j else if j = i0 then some t else aR m0 15 (j - 1)) ∧ mT p' (mC m0) = 1 ∧ mR p' 5 (mC m0) = some (mC m0 + 1) ∧ mT p' (mC m0 + 1) = 32 ∧ mI p' 0 (mC m0) = s ∧ mR p' 6 (mC m0) = some t ∧ (i0 = 0 ∨ ∃ k, od[i0 - 1]? = some k ∧ D.1 11 k ≤ fr) ∧ (∀ j k, i0 ≤ j → od[j]? = some k → ¬ D.1 11 k ≤ fr) ∧ Top p' := by
  have T1 := T.1
  have lt : t < mC m0 := T.lt (by rw [ht]; decide)
  have C := tldP_Ch (p := m0) (fc := fc) (s := s) (a := 0) (b := fr) (c := n) (v := 0) (n := 0) (x := some t)
  have A := tldP_at (fc := fc) (s := s) (a := 0) (b := fr) (c := n) (v := 0) (n := 0) (x := some t) T
  have CC := tldP_C (p := m0) (fc := fc) (s := s) (a := 0) (b := fr) (c := n) (v := 0) (n := 0) (x := some t)
  have TT := tldP_Top (fc := fc) (s := s) (a := 0) (b := fr) (c := n) (v := 0) (n := 0) (x := some t) T
  have e515 : mI (tldP m0 fc s 0 fr n 0 0 (some t)) 515 13 = nj x := by rw [C.i (by decide) (by omega), L2.1, hx]
  have L2' : LText ta ia (tldP m0 fc s 0 fr n 0 0 (some t)) D := L2.Ch T C (by decide) (fun a ha => by simp only [List.mem_cons, List.not_mem_nil, or_false]; omega) (fun _ _ => nil_no)
  have L3' : LOrd ta od (tldP m0 fc s 0 fr n 0 0 (some t)) D := L3.Ch T C (by decide) nil_no
  have eA : P_Ledger_enter (some t) m0 = P_Ledger_enter_53 FU (some t) (nj x) (tldP m0 fc s 0 fr n 0 0 (some t)) := by
    have q1 : ∀ f, mI (nw m0 1 0 7) f t = mI m0 f t := fun f => by rw [k_mI_nw, zF_ne (by omega)]
    unfold P_Ledger_enter
    rw [L2.1, hx, if_neg (by rw [nj_l_le (by omega) (by omega)]; omega), h514, if_pos (by rw [nj_lt_l (by omega) (by omega)]; exact hfc), vb_e, gs_s, gt_t (by rw [k_mT_nw, up1_ne (by omega)]; exact ht), q1, q1, q1, hs, hn, hfr, P_Fact_init_e (n := 0) mT_mk (by rw [k_mC_nw]; omega) (by decide) (by omega), bn_s, P_add_e (fc := fc) (by rw [iniF_f (by omega), k_mI_nw, zF_ne (by omega)]; exact h514) hfc (by rw [iniF_T, k_mC_nw, up1_ne (by omega)]; exact mT_mk), bn_s, vb_e]
    have e : sI (wR (iniF (nw m0 1 0 7) (mC m0) s 0 fr n 0 0 (some t)) 14 fc (some (mC m0))) 514 13 (nj (fc + 1)) = tldP m0 fc s 0 fr n 0 0 (some t) := rfl
    rw [e, e515]
  have lt' : mT (tldP m0 fc s 0 fr n 0 0 (some t)) t = 11 := by rw [C.t lt]; exact ht
  have hfr' : mI (tldP m0 fc s 0 fr n 0 0 (some t)) 1284 t = fr := by rw [C.i (by decide) lt]; exact hfr
  have a15 : aR (tldP m0 fc s 0 fr n 0 0 (some t)) 15 = aR m0 15 := C.ar (by decide) (fun z => z) (by omega)
  rw [eA]
  generalize tldP m0 fc s 0 fr n 0 0 (some t) = m1 at *
  obtain ⟨A1, A2, A3, A4, A5, A6, A7, A8, A9, A10, A11, A12, A13⟩ := A
  obtain ⟨i0, q', b1, b2, ⟨s1, s2, s3, s4, s5⟩, b4, b5⟩ := enter53_e TT L2' L3' hx hx2 lt' hfr' x FU m1 (Nat.le_refl _) (by unfold FU; omega) ⟨Ch.rfl, rfl, rfl, fun _ _ => rfl, fun j j1 j2 => by omega⟩ (fun j k hj hk => by
    have : j < od.length := (List.getElem?_eq_some_iff.mp hk).1
    rw [L3.1] at this
    omega)
  have c1 : mC m0 < mC m1 := by omega
  have c2 : mC m0 + 1 < mC m1 := by omega
  have Cq : Ch [515] [15] nil m1 (sI (wR q' 15 i0 (some t)) 515 13 (nj (x + 1))) := ((s1.mono (fun _ h => absurd h List.not_mem_nil) (fun _ h => h) (fun _ h => h)).wR (Or.inl (by decide))).sI (by decide)
  refine ⟨i0, _, b1, b2, Ch.trans (C.mono (by decide) (by decide) (fun _ h => h)) (Cq.mono (by decide) (by decide) (fun _ h => h)), by rw [k_mC_sI, k_mC_wR, s2]; exact CC.1, by rw [k_mS_sI, k_mS_wR, s3]; exact CC.2, by rw [Cq.i (by decide) (by omega)]; exact A13, by rw [k_mI_sI_e, up1_ap, if_pos rfl], by rw [Cq.ar (by decide) (fun z => z) (by omega)]; exact A12, fun j hj => ?_, by rw [Cq.t c1]; exact A1, by rw [Cq.r (by decide) c1]; exact A2, by rw [Cq.t c2]; exact A3, by rw [Cq.i (by decide) c1]; exact A5, by rw [Cq.r (by decide) c1]; exact A10, b4, b5, TT.Ch Cq⟩
  rw [k_aR_sI, k_aR_wR_e, up1_ap]
  by_cases z : j < i0
  · rw [if_pos z, if_neg (by omega), s4 j (by omega), a15]
  · rw [if_neg z]
    by_cases w : j = i0
    · rw [if_pos w, if_pos w]
    · rw [if_neg w, if_neg w, s5 j (by omega) hj, a15]
end En
