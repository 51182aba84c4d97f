/-! Layer C: both walks -/
section Wq
variable {fa ta ia sa ca : Nat → Nat} {od : List Nat} {p r : Mem} {D : Dt} {nc : Nat} {B : BSt} {inf : Nat → Bool} {vs : Nat → Int32} {sup : Sup}
theorem nxt_some {i : Nat} {c : Nat × Nat} (W : WText D nc) (h : nxt D B inf i = some c) : c.1 < D.2.1 ∧ inf c.1 = true ∧ isW D c.1 = true ∧ ∃ z, (B.1 c.1).1[c.2]? = some z ∧ D.1 15 z.1 = 2 := by
  unfold nxt at h
  by_cases q : D.1 15 i = 2 ∧ D.1 18 i = 1
  · rw [if_pos q] at h
    cases ca : awd D (D.1 19 i) with
    | none => rw [ca] at h; cases h
    | some k =>
      obtain ⟨c1, c2, -⟩ := (awd_iff W).mp ca
      rw [ca] at h
      change (if inf k = true then (ent D B k (D.1 20 i)).map fun j => (k, j) else none) = some c at h
      cases hi : inf k with
      | false => simp [hi] at h
      | true =>
        rw [hi, if_pos rfl] at h
        cases ce : ent D B k (D.1 20 i) with
        | none => rw [ce] at h; cases h
        | some j =>
          rw [ce] at h
          cases h
          obtain ⟨z, z1, z2, -⟩ := ent_some ce
          exact ⟨c1, hi, decide_eq_true (Or.inl c2), z, z1, z2⟩
  · rw [if_neg q] at h; cases h
theorem P_walk_e (W : WText D nc) (Wi : WItems D nc) (hn60 : nc ≤ 60) (hWB : ∀ k, k < D.2.1 → WRow D (B.1 k).1) : ∀ (g fu : Nat) (V : List (Nat × Nat)) (k j : Nat) (x : Int32) (p : Mem) (z : Row), V.length + g = 1441 → g < fu → V.Nodup → (∀ v, v ∈ V → v.1 < D.2.1 ∧ v.2 < 60) → k < D.2.1 → inf k = true → isW D k = true → (B.1 k).1[j]? = some z → D.1 15 z.1 = 2 → (k, j) ∉ V → Lk fa ta ia sa ca od p D → Top p → PL p → MgP ta ia D B inf vs sup V p →
    ∃ p', P_Scene_marginOf_21 fu x (some (ta k)) (nj j) (nj V.length) p = some (hld (mgW D B inf vs sup g V k j x), p') ∧ WkP ta ia D p p'
  | 0, fu, V, k, j, x, p, z, hg, hf, hN, hV, hk, hi, hw, hz, h2, hn, L, T, hp, M => by
    have := few W.1 hN hV
    omega
  | g + 1, fu + 1, V, k, j, x, p, z, hg, hf, hN, hV, hk, hi, hw, hz, h2, hn, L, T, hp, M => by
    have T1 := T.1
    have hlen := (hWB k hk).len Wi hn60
    have hj : j < (B.1 k).1.length := (List.getElem?_eq_some_iff.mp hz).1
    have hV' : ∀ v, v ∈ V ++ [(k, j)] → v.1 < D.2.1 ∧ v.2 < 60 := fun v hv => by
      rcases List.mem_append.mp hv with q | q
      · exact hV v q
      · rw [List.mem_singleton.mp q]; exact ⟨hk, by show j < 60; omega⟩
    have hN' : (V ++ [(k, j)]).Nodup := by
      rw [List.nodup_append]
      refine ⟨hN, by simp, fun a ha b hb e => hn ?_⟩
      rw [List.mem_singleton.mp hb] at e
      exact e ▸ ha
    have hlV : (V ++ [(k, j)]).length = V.length + 1 := by simp
    have hfew := few W.1 hN' hV'
    obtain ⟨p1, a1, a2, a3⟩ := P_66_e (x := x) (x6 := nj V.length) W Wi hn60 hWB L T hp M hk hi hw hz h2 (fun z0 z1 z2 z3 z4 => P_Scene_marginOf_21 fu z0 z1 z2 z3 z4)
    have L1 : Lk fa ta ia sa ca od p1 D := L.Ch T (a1.1.mono (fun _ h => h) (fun _ h => h) (dy3_T L.2.1)) (by decide) (by decide)
    have N : isS D sup k z.1 = none → ∃ p', P_Scene_marginOf_66 (fun z0 z1 z2 z3 z4 => P_Scene_marginOf_21 fu z0 z1 z2 z3 z4) x (some (ta k)) (nj j) (nj V.length) p = some (hld (mgW D B inf vs sup (g + 1) V k j x), p') ∧ WkP ta ia D p p' := fun hS => by
      rw [a3]
      cases c : nxt D B inf (z.2.getD z.1) with
      | none =>
        refine ⟨p1, ?_, a1⟩
        rw [mgW.eq_2, if_neg hn, hz]
        show _ = some (hld (match isS D sup k z.1 with | some v => x + v | none => match nxt D B inf (z.2.getD z.1) with | none => _ | some c => _), p1)
        rw [hS, c]
      | some c1 =>
        obtain ⟨n1, n2, n3, y, n4, n5⟩ := nxt_some W c
        have em : mgW D B inf vs sup (g + 1) V k j x = mgW D B inf vs sup g (V ++ [(k, j)]) c1.1 c1.2 (x + valS D vs (ix (D.1 21 (z.2.getD z.1))) (ix (D.1 22 (z.2.getD z.1)))) := by
          rw [mgW.eq_2, if_neg hn, hz]
          show (match isS D sup k z.1 with | some v => x + v | none => match nxt D B inf (z.2.getD z.1) with | none => _ | some c => _) = _
          rw [hS, c]
        rw [em]
        by_cases q : c1 ∈ V ++ [(k, j)]
        · refine ⟨p1, ?_, a1⟩
          show (if c1 ∈ V ++ [(k, j)] then _ else _) = _
          rw [if_pos q]
          cases g with
          | zero => rfl
          | succ g => rw [mgW.eq_2, if_pos q]
        · obtain ⟨p', b1, b2⟩ := P_walk_e W Wi hn60 hWB g fu (V ++ [(k, j)]) c1.1 c1.2 (x + valS D vs (ix (D.1 21 (z.2.getD z.1))) (ix (D.1 22 (z.2.getD z.1)))) p1 y (by omega) (by omega) hN' hV' n1 n2 n3 n4 n5 q L1 (T.Ch a1.1) (hp.Ch a1.1 (by decide)) a2
          refine ⟨p', ?_, a1.trans T b2⟩
          show (if c1 ∈ V ++ [(k, j)] then _ else _) = _
          rw [if_neg q, nj_add_l, ← b1, hlV]
    rw [P_Scene_marginOf_21.eq_2, if_neg (by rw [show (1441 : Int32) = nj 1441 from rfl, nj_le (by omega) (by omega)]; omega), M.2.2.2.2.1]
    cases hs : sup with
    | none =>
      rw [hs] at N
      show ∃ p', (if some (ta k) = none then _ else _) = _ ∧ _
      rw [if_neg (by simp)]
      exact N rfl
    | some s =>
      obtain ⟨s1, s2, s3⟩ := M.2.2.2.2.2 s hs
      show ∃ p', (if some (ta k) = some (ta s.1) then _ else _) = _ ∧ _
      by_cases q : s.1 = k
      · obtain ⟨t1, t2, -, -, -, -, -, -, -, -, -, -, t13, t14, t15, t16, t17, t18, t19, t20, t21⟩ := L.2.1.2.1 k hk
        obtain ⟨r1, r2⟩ := (M.2.1 k hk hi hw).2.1 j z hz
        obtain ⟨y1, y2, y3⟩ := isI_30 W ((hWB k hk).1 z (List.mem_of_getElem? hz)).1
        have hI := L.2.2.2.1 (z.1 / 30) (z.1 % 30) y1 y2
        have ez : 30 * (z.1 / 30) + z.1 % 30 = z.1 := by omega
        rw [ez] at hI
        obtain ⟨-, i2, -, -, i5, -⟩ := hI
        rw [if_pos (by rw [q]), gs_s, gt_t t2, t13, gs_s, gt_t t17, (t21 (of_decide_eq_true hw)).1, inb_nj (by omega), gd_t (decide_eq_true (by omega)), ix_nj (by omega), r1, gs_s, gt_t i2, i5, s2]
        by_cases q2 : D.1 16 z.1 = s.2.1
        · rw [if_pos q2]
          refine ⟨p, ?_, WkP.rfl⟩
          unfold P_Scene_marginOf_56
          rw [vb_e, P_194_e, s3, mgW.eq_2, if_neg hn, hz]
          show _ = some (hld (match isS D (some s) k z.1 with | some v => x + v | none => _), p)
          have : isS D (some s) k z.1 = some s.2.2 := if_pos ⟨q, q2⟩
          rw [this]
        · rw [if_neg q2, ← hs]
          exact N (by rw [hs]; exact if_neg fun e => q2 e.2)
      · rw [if_neg (fun e => q (ta_inj L s1 hk (Option.some.inj e).symm)), ← hs]
        exact N (by rw [hs]; exact if_neg fun e => q e.1)
end Wq
