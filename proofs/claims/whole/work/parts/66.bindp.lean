/-! Layer C: the class counts what binds a HALF -/
section Bp
variable {fa ta ia sa ca : Nat → Nat} {od : List Nat} {p : Mem} {D : Dt} {nc : Nat} {vs : Nat → Int32} {tk : Int32} {inf : Nat → Bool}
theorem len_sub : ∀ (l m : List Nat), l.Nodup → (∀ x, x ∈ l → x ∈ m) → l.length ≤ m.length
  | [], m, _, _ => Nat.zero_le _
  | a :: l, m, hd, h => by
    have ha := h a (by simp)
    have hd' := List.nodup_cons.mp hd
    have := len_sub l (m.erase a) hd'.2 (fun x hx => by
      have hne : x ≠ a := fun e => hd'.1 (e ▸ hx)
      exact (List.mem_erase_of_ne hne).mpr (h x (by simp [hx])))
    rw [List.length_erase_of_mem ha] at this
    have : 0 < m.length := List.length_pos_of_mem ha
    simp only [List.length_cons]
    omega
theorem cB_len {P : Nat → Bool} : ∀ n, cB P n = ((List.range n).filter P).length
  | 0 => rfl
  | n + 1 => by
    have ih := cB_len (P := P) n
    show cB P n + (if P n then 1 else 0) = _
    rw [List.range_succ, List.filter_append, List.length_append, ih]
    cases c : P n <;> simp [c]
theorem od_nodup (hs : od.Pairwise (ORD D)) : od.Nodup := hs.imp fun {a b} h e => by
  subst e
  exact ORD_asy h h
theorem od_cB {P : Nat → Bool} (hm : ∀ k, k ∈ od ↔ k < D.2.1) (hs : od.Pairwise (ORD D)) : (od.filter P).length = cB P D.2.1 := by
  rw [cB_len]
  have n1 : (od.filter P).Nodup := (od_nodup hs).filter _
  have n2 : ((List.range D.2.1).filter P).Nodup := List.nodup_range.filter _
  have h1 := len_sub _ ((List.range D.2.1).filter P) n1 (fun x hx => by
    obtain ⟨a, b⟩ := List.mem_filter.mp hx
    exact List.mem_filter.mpr ⟨List.mem_range.mpr ((hm x).mp a), b⟩)
  have h2 := len_sub _ (od.filter P) n2 (fun x hx => by
    obtain ⟨a, b⟩ := List.mem_filter.mp hx
    exact List.mem_filter.mpr ⟨(hm x).mpr (List.mem_range.mp a), b⟩)
  omega
theorem P_bind_9_e (W : WText D nc) (Wi : WItems D nc) {x1 : Int32} : ∀ (e i fu : Nat) (p : Mem), i + e = D.2.1 → e < fu → Lk fa ta ia sa ca od p D → Top p → PL p → HoP p vs tk → (∀ k, k < D.2.1 → mI p 1287 (ta k) = tI (inf k)) → (∀ k, k ∈ od.take i → mI p 1295 (ta k) = tI (wB D inf vs tk k)) →
    ∃ p', P_Reckoning_bind_9 fu x1 (nj ((od.take i).filter (aB D inf vs tk)).length) (nj i) p = P_Reckoning_bind_96 x1 (nj (cB (aB D inf vs tk) D.2.1)) p' ∧ (∀ k, k < D.2.1 → mI p' 1295 (ta k) = tI (wB D inf vs tk k)) ∧ Ch [1295] [4] nil p p' ∧ mC p' = mC p ∧ mS p' = mS p
  | 0, i, fu + 1, p, hi, _, L, T, hp, H, hI, hb => by
    have h24 := W.1
    have ht : od.take i = od := List.take_of_length_le (by rw [L.2.2.1.1]; omega)
    rw [ht] at hb ⊢
    refine ⟨p, ?_, fun k hk => hb k ((L.2.2.1.2.2.1 k).mpr hk), Ch.rfl, rfl, rfl⟩
    rw [P_Reckoning_bind_9.eq_2, L.2.1.1, if_pos (by rw [nj_le (by omega) (by omega)]; omega), od_cB L.2.2.1.2.2.1 L.2.2.1.2.2.2]
  | e + 1, i, fu + 1, p, hi, hf, L, T, hp, H, hI, hb => by
    have h24 := W.1
    have T1 := T.1
    obtain ⟨l, l1, l2, l3⟩ := od_get L (i := i) (by omega)
    obtain ⟨t1, t2, t3, -⟩ := L.2.1.2.1 l l2
    have htake : od.take (i + 1) = od.take i ++ [l] := by
      rw [List.take_add_one, l1]
      rfl
    have hnl : l ∉ od.take i := fun hm => by
      have hn := od_nodup L.2.2.1.2.2.2
      have : (od.take (i + 1)).Nodup := hn.sublist (List.take_sublist _ _)
      rw [htake, List.nodup_append] at this
      exact this.2.2 l hm l (by simp) rfl
    have step : ∀ (p1 : Mem), Ch [] [4] nil p p1 → mC p1 = mC p → mS p1 = mS p → ∃ p', P_Reckoning_bind_63 (fun z0 z1 z2 z3 => P_Reckoning_bind_9 fu z0 z1 z2 z3) x1 (nj ((od.take i).filter (aB D inf vs tk)).length) (nj i) (some (ta l)) (tI (wB D inf vs tk l)) (some (ta l)) p1 = P_Reckoning_bind_96 x1 (nj (cB (aB D inf vs tk) D.2.1)) p' ∧ (∀ k, k < D.2.1 → mI p' 1295 (ta k) = tI (wB D inf vs tk k)) ∧ Ch [1295] [4] nil p p' ∧ mC p' = mC p ∧ mS p' = mS p := fun p1 c1 hC1 hS1 => by
      have lt : ta l < mC p := T.lt (by rw [t2]; decide)
      have c2 : Ch [1295] [4] nil p (sI p1 1295 (ta l) (tI (wB D inf vs tk l))) := (c1.mono (by simp) (fun _ h => h) (fun _ h => h)).sI (by decide)
      have ht : ∀ k, k < D.2.1 → ta k < mC p := fun k hk => T.lt (by rw [(L.2.1.2.1 k hk).2.1]; decide)
      obtain ⟨p', a1, a2, a3, a4, a5⟩ := P_bind_9_e W Wi (x1 := x1) e (i + 1) fu (sI p1 1295 (ta l) (tI (wB D inf vs tk l))) (by omega) (by omega) (L.Ch T (c2.mono (fun _ h => h) (fun _ h => h) (fun _ h => h.elim)) (by decide) (by decide)) (T.Ch c2) (hp.Ch c2 (by decide)) (H.Ch T c2 (by decide) (by decide) ⟨nil_no, nil_no⟩) (fun k hk => by rw [c2.i (by decide) (ht k hk)]; exact hI k hk) (fun k hk => by
        rw [k_mI_sI_e, up1_ap]
        rw [htake] at hk
        rcases List.mem_append.mp hk with q | q
        · have hkd : k < D.2.1 := (L.2.2.1.2.2.1 k).mp (List.mem_of_mem_take q)
          by_cases z : ta k = ta l
          · exact absurd (ta_inj L hkd l2 z ▸ q) hnl
          · rw [if_neg z, c1.i List.not_mem_nil (ht k hkd)]; exact hb k q
        · rw [List.mem_singleton.mp q, if_pos rfl])
      refine ⟨p', ?_, a2, c2.trans a3, by rw [a4, k_mC_sI]; exact hC1, by rw [a5, k_mS_sI]; exact hS1⟩
      rw [htake, List.filter_append, List.length_append] at a1
      have e80 : mI (sI p1 1295 (ta l) (tI (wB D inf vs tk l))) 1280 (ta l) = D.1 8 l := by rw [c2.i (by decide) lt]; exact t3
      have e95 : mI (sI p1 1295 (ta l) (tI (wB D inf vs tk l))) 1295 (ta l) = tI (wB D inf vs tk l) := by rw [k_mI_sI_e, up1_eq]
      have et : mT (sI p1 1295 (ta l) (tI (wB D inf vs tk l))) (ta l) = 11 := by rw [c2.t lt]; exact t2
      unfold P_Reckoning_bind_63 P_Reckoning_bind_87 P_Reckoning_bind_88
      rw [gs_s, gt_t (by rw [c1.t lt]; exact t2), gz_tI, vb_e, gs_s, gt_t et, e80, e95]
      simp only [vb_e, nj_add_l]
      by_cases c0 : D.1 8 l = 0
      · have hwb : wB D inf vs tk l = aB D inf vs tk l := by
          unfold wB aB isW
          rw [decide_eq_true (Or.inl c0), decide_eq_true c0]
        rw [hwb] at a1 ⊢
        rw [if_pos c0]
        cases c1 : aB D inf vs tk l with
        | false =>
          rw [c1] at a1
          rw [if_pos (by rfl), Nat.add_zero]
          simpa [c1] using a1
        | true =>
          rw [c1] at a1
          rw [if_neg (by decide)]
          simpa [c1] using a1
      · have hab : aB D inf vs tk l = false := by unfold aB; rw [decide_eq_false c0, Bool.false_and]
        rw [if_neg c0, Nat.add_zero]
        have a1' : P_Reckoning_bind_9 fu x1 (nj ((od.take i).filter (aB D inf vs tk)).length) (nj (i + 1)) (sI p1 1295 (ta l) (tI (wB D inf vs tk l))) = P_Reckoning_bind_96 x1 (nj (cB (aB D inf vs tk) D.2.1)) p' := by simpa [hab] using a1
        by_cases q : tI (wB D inf vs tk l) = 0
        · rw [if_pos q]; exact a1'
        · rw [if_neg q]; exact a1'
    rw [P_Reckoning_bind_9.eq_2, L.2.1.1, if_neg (by rw [nj_le (by omega) (by omega)]; omega), inb_nj (by omega), gd_t (decide_eq_true (by omega)), ix_nj (by omega), l3, gs_s, gt_t t2, P_changes_e L W l2, bn_s, gt_t t2, hI l l2]
    unfold P_Reckoning_bind_62
    cases cw : isW D l with
    | false =>
      rw [Bool.not_false, if_neg (by decide)]
      have := step p Ch.rfl rfl rfl
      rw [show wB D inf vs tk l = false by unfold wB; rw [cw, Bool.false_and]] at this
      exact this
    | true =>
      rw [Bool.not_true, if_pos (by rfl)]
      cases ci : inf l with
      | false =>
        rw [if_pos (by rfl)]
        have := step p Ch.rfl rfl rfl
        rw [show wB D inf vs tk l = false by unfold wB; rw [ci, Bool.false_and, Bool.and_false]] at this
        exact this
      | true =>
        rw [if_neg (by decide)]
        obtain ⟨p1, b1, b2, b3, b4⟩ := P_someBinds_e L T hp W Wi l2 H
        have := step p1 b2 b3 b4
        have hwb : wB D inf vs tk l = bdS D vs tk l := by unfold wB; rw [cw, ci, Bool.true_and, Bool.true_and]
        rw [hwb] at this
        rw [b1, bn_s]
        cases cb : bdS D vs tk l with
        | false => rw [cb] at this; rw [if_pos (by rfl)]; exact this
        | true => rw [cb] at this; rw [if_neg (by decide)]; exact this
end Bp
