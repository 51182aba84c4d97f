/-! Layer C: the reference's walk; margin -/
section Wt
variable {fa ta ia sa ca : Nat → Nat} {od : List Nat} {p r : Mem} {D : Dt} {nc : Nat} {B : BSt} {inf : Nat → Bool} {vs : Nat → Int32} {sup : Sup}
theorem R_86_e (W : WText D nc) (Wi : WItems D nc) (hn60 : nc ≤ 60) (hWB : ∀ k, k < D.2.1 → WRow D (B.1 k).1) {V : List (Nat × Nat)} (M : MgR D B inf vs sup V r) {k j : Nat} {x : Int32} {z : Row} (hk : k < D.2.1) (hz : (B.1 k).1[j]? = some z) (h2 : D.1 15 z.1 = 2) (k9 : Int32 → Int32 → Mem → Option (Int32 × Mem)) (hk9 : ∀ y m, k9 (-1) y m = some (y, m)) :
    ∃ r1, Ch [1610] [51] nil r r1 ∧ mC r1 = mC r ∧ R_marginOf_86 k9 (nj (64 * k + j)) x (nj z.1) r = (match nxt D B inf (z.2.getD z.1) with
      | none => some (x + valS D vs (ix (D.1 21 (z.2.getD z.1))) (ix (D.1 22 (z.2.getD z.1))), r1)
      | some c => k9 (nj (64 * c.1 + c.2)) (x + valS D vs (ix (D.1 21 (z.2.getD z.1))) (ix (D.1 22 (z.2.getD z.1)))) r1) := by
  have h24 := W.1
  have hlen := (hWB k hk).len Wi hn60
  have hj : j < (B.1 k).1.length := (List.getElem?_eq_some_iff.mp hz).1
  obtain ⟨i1, i2, a, b, i3, i4, i5, i6, i7⟩ := tell_e Wi (hWB k hk) (List.mem_of_getElem? hz) h2
  obtain ⟨r1, b1, b2, b3, -⟩ := R_termOf_e (vs := vs) h24 i4 i3 M.1 M.2.2.2.2.2.1 M.2.1 i7
  obtain ⟨y1, y2, y3⟩ := isI_30 W i1
  have hit : z.2.getD z.1 < 30 * D.2.1 := by omega
  have e21 : valS D vs (ix (D.1 21 (z.2.getD z.1))) (ix (D.1 22 (z.2.getD z.1))) = valS D vs a b := by rw [i5, i6, ix_nj (by omega), ix_nj (by omega)]
  have g1 : ∀ {β : Type} (c : Option β), gd (inb (nj (64 * k + j)) 1536) c = c := fun c => by rw [inb_nj (by omega), gd_t (decide_eq_true (by omega))]
  refine ⟨r1, b2, b3, ?_⟩
  rw [e21]
  unfold R_marginOf_86 R_marginOf_96
  simp only [g1, ix_nj (show 64 * k + j < 2147483648 by omega)]
  rw [((M.2.2.2.2.1 k hk).2.1 j z hz).2]
  cases cz : z.2 with
  | some i =>
    rw [cz] at i1 i2 i5 i6 hit
    have hii : i < 30 * D.2.1 := hit
    change D.1 21 i = nj a at i5
    change D.1 22 i = nj b at i6
    have n8 : D.1 15 i = 8 := by
      rcases ((hWB k hk).1 z (List.mem_of_getElem? hz)).2.2 i cz with ⟨-, q, -⟩
      exact q
    have hn : nxt D B inf i = none := by
      unfold nxt
      rw [if_neg (fun e => by rw [n8] at e; exact absurd e.1 (by decide))]
    show (if nj i = -1 then _ else _) = (match nxt D B inf i with
      | none => _
      | some c => _)
    rw [hn, if_neg (by rw [nj_ne_m1 (by omega)]; exact id)]
    show gd (inb (nj i) 750) (gd (inb (nj i) 750) (bn (R_termOf (aI r 21 (ix (nj i))) (aI r 22 (ix (nj i))) r) _)) = _
    rw [inb_nj (by omega), gd_t (decide_eq_true (by omega)), gd_t (decide_eq_true (by omega)), ix_nj (by omega), dat_15 M.1 (x := 21) (by omega) hii, dat_15 M.1 (x := 22) (by omega) hii, i5, i6, b1, bn_s]
  | none =>
    rw [cz] at i1 i2 i5 i6 hit
    have hii : z.1 < 30 * D.2.1 := hit
    change D.1 21 z.1 = nj a at i5
    change D.1 22 z.1 = nj b at i6
    have M1 := M.Ch b2 (by decide) (by decide) b3
    have g2 : ∀ {β : Type} (c : Option β), gd (inb (nj z.1) 750) c = c := fun c => by rw [inb_nj (by omega), gd_t (decide_eq_true (by omega))]
    rw [if_pos (by rfl)]
    simp only [g2, ix_nj (show z.1 < 2147483648 by omega)]
    rw [dat_15 M.1 (x := 21) (by omega) hii, dat_15 M.1 (x := 22) (by omega) hii, i5, i6, b1, bn_s, vb_e, dat_15 M1.1 (x := 18) (by omega) hii]
    show _ = (match nxt D B inf z.1 with
      | none => some (x + valS D vs a b, r1)
      | some c => k9 (nj (64 * c.1 + c.2)) (x + valS D vs a b) r1)
    by_cases q : D.1 18 z.1 = 0
    · have hn : nxt D B inf z.1 = none := by
        unfold nxt
        rw [if_neg (fun e => by rw [q] at e; exact absurd e.2 (by decide))]
      rw [if_pos q, hn]
    · have q1 : D.1 18 z.1 = 1 := by
        obtain ⟨k', j', hk', hj', e⟩ := ((hWB k hk).1 z (List.mem_of_getElem? hz)).1
        obtain ⟨s, s1, s2, -, -, -, -, s7, -⟩ := Wi k' j' hk' hj'
        rw [← e] at s2 s7
        have s2' : s = 2 := (nj_inj (b := 2) (by omega) (by omega)).mp (s2.symm.trans h2)
        exact (s7 s2').1.resolve_left q
      have e0 : jo (wk D inf (D.1 19 z.1) 0) = -1 := by
        unfold wk
        cases awd D (D.1 19 z.1) with
        | none => rfl
        | some a => rfl
      have h164 := R_164_e W M1 k9 hii (x := x + valS D vs a b) D.2.1 0 FU (by omega) (by unfold FU; omega)
      rw [e0] at h164
      rw [if_neg q]
      refine Eq.trans h164 ?_
      rw [R_220_e W Wi hn60 hWB M1 k9 hii ⟨h2, q1⟩]
      cases nxt D B inf z.1 with
      | none => exact hk9 _ _
      | some c => rfl
theorem R_walk_e (W : WText D nc) (Wi : WItems D nc) (hn60 : nc ≤ 60) (hWB : ∀ k, k < D.2.1 → WRow D (B.1 k).1) : ∀ (g fu : Nat) (V : List (Nat × Nat)) (k j : Nat) (x : Int32) (r : Mem) (z : Row), V.length + g = 1441 → g + 1 < fu → V.Nodup → (∀ v, v ∈ V → v.1 < D.2.1 ∧ v.2 < 60) → k < D.2.1 → (B.1 k).1[j]? = some z → D.1 15 z.1 = 2 → MgR D B inf vs sup V r →
    ∃ r', R_marginOf_9 fu (nj (64 * k + j)) x r = some (mgW D B inf vs sup g V k j x, r') ∧ Ch wkF wkA nil r r' ∧ mC r' = mC r
  | 0, fu, V, k, j, x, r, z, hg, hf, hN, hV, hk, hz, h2, M => by
    have := few W.1 hN hV
    omega
  | g + 1, fu + 1, V, k, j, x, r, z, hg, hf, hN, hV, hk, hz, h2, M => by
    have h24 := W.1
    have hC := M.2.1
    have hlen := (hWB k hk).len Wi hn60
    have hj : j < (B.1 k).1.length := (List.getElem?_eq_some_iff.mp hz).1
    have hfew := few h24 hN hV
    rw [R_marginOf_9.eq_2, if_neg (by rw [nj_ne_m1 (by omega)]; exact id), R_isCome_e (fun v hv => ⟨by have := (hV v hv).1; omega, (hV v hv).2⟩) hfew M.2.2.2.2.2.2.1 M.2.2.2.2.2.2.2.1 (by omega) (by omega), bn_s]
    by_cases hn : (k, j) ∈ V
    · rw [decide_eq_true hn, if_neg (by decide)]
      exact ⟨r, by rw [mgW.eq_2, if_pos hn], Ch.rfl, rfl⟩
    · rw [decide_eq_false hn, if_pos (by rfl), M.2.2.2.2.2.2.1, inb_nj (by omega), gd_t (decide_eq_true (by omega)), vb_e, ix_nj (by omega)]
      have hV' : ∀ v, v ∈ V ++ [(k, j)] → v.1 < D.2.1 ∧ v.2 < 60 := fun v hv => by
        rcases List.mem_append.mp hv with q | q
        · exact hV v q
        · rw [List.mem_singleton.mp q]; exact ⟨hk, by show j < 60; omega⟩
      have hN' : (V ++ [(k, j)]).Nodup := by
        rw [List.nodup_append]
        refine ⟨hN, by simp, fun a ha b hb e => hn ?_⟩
        rw [List.mem_singleton.mp hb] at e
        exact e ▸ ha
      have hlV : (V ++ [(k, j)]).length = V.length + 1 := by simp
      rw [vb_e, k_mI_wI, M.2.2.2.2.2.2.1, nj_add_l]
      have c2 : Ch wkF wkA nil r (sI (wI r 59 V.length (nj (64 * k + j))) 1625 0 (nj (V.length + 1))) := (Ch.rfl.wI (Or.inl (by decide))).sI (by decide)
      have M2 : MgR D B inf vs sup (V ++ [(k, j)]) (sI (wI r 59 V.length (nj (64 * k + j))) 1625 0 (nj (V.length + 1))) := by
        obtain ⟨h1, h2, h3, h4, h5, h6, h7, h8, h9, h10⟩ := M
        refine ⟨by rw [← h1]; exact dat_Ch c2 hC (by decide) (by decide), by rw [k_mC_sI, k_mC_wI]; exact h2, ?_, ?_, ?_, ?_, ?_, fun i v hv => ?_, ?_, ?_⟩
        · rw [c2.i (by decide) (by omega)]; exact h3
        · rw [c2.ai (by decide) nil_no (by omega)]; exact h4
        · unfold RowsR
          rw [c2.ai (by decide) nil_no (by omega), c2.ai (by decide) nil_no (by omega), c2.ai (by decide) nil_no (by omega), c2.ai (by decide) nil_no (by omega), c2.ai (by decide) nil_no (by omega)]
          exact h5
        · rw [c2.ai (by decide) nil_no (by omega)]; exact h6
        · rw [k_mI_sI_e, up1_eq, hlV]
        · rw [k_aI_sI, k_aI_wI_e, up1_ap]
          by_cases q : i = V.length
          · rw [if_pos q]
            rw [q, List.getElem?_append_right (by omega), Nat.sub_self] at hv
            cases hv
            rfl
          · rw [if_neg q]
            have hl : i < (V ++ [(k, j)]).length := (List.getElem?_eq_some_iff.mp hv).1
            rw [List.getElem?_append_left (by omega)] at hv
            exact h8 i v hv
        · rw [c2.i (by decide) (by omega)]; exact h9
        · rw [c2.i (by decide) (by omega), c2.i (by decide) (by omega), c2.i (by decide) (by omega)]; exact h10
      have hC2 : mC (sI (wI r 59 V.length (nj (64 * k + j))) 1625 0 (nj (V.length + 1))) = mC r := by rw [k_mC_sI, k_mC_wI]
      generalize sI (wI r 59 V.length (nj (64 * k + j))) 1625 0 (nj (V.length + 1)) = m at c2 M2 hC2
      have e64 : nj (64 * k + j) / 64 = nj k := by rw [show (64 : Int32) = nj 64 from rfl, nj_div (by omega) (by omega)]; congr 1; omega
      obtain ⟨y1, y2, y3⟩ := isI_30 W ((hWB k hk).1 z (List.mem_of_getElem? hz)).1
      rw [vb_e, e64, inb_nj (by omega), gd_t (decide_eq_true (by omega)), ix_nj (by omega), ((M2.2.2.2.2.1 k hk).2.1 j z hz).1, vb_e, inb_nj (by omega), gd_t (decide_eq_true (by omega)), ix_nj (by omega), dat_15 M2.1 (x := 16) (by omega) (by omega)]
      have N : isS D sup k z.1 = none → ∃ r', R_marginOf_86 (fun z0 z1 z2 => R_marginOf_9 fu z0 z1 z2) (nj (64 * k + j)) x (nj z.1) m = some (mgW D B inf vs sup (g + 1) V k j x, r') ∧ Ch wkF wkA nil r r' ∧ mC r' = mC r := fun hS => by
        obtain ⟨r1, b1, b2, b3⟩ := R_86_e (x := x) W Wi hn60 hWB M2 hk hz h2 (fun z0 z1 z2 => R_marginOf_9 fu z0 z1 z2) (fun y m => by
          cases fu with
          | zero => omega
          | succ fu => rw [R_marginOf_9.eq_2, if_pos rfl])
        have c3 : Ch wkF wkA nil r r1 := c2.trans (b1.mono (by decide) (by decide) (fun _ h => h))
        rw [b3]
        cases c : nxt D B inf (z.2.getD z.1) with
        | none =>
          refine ⟨r1, ?_, c3, by omega⟩
          rw [mgW.eq_2, if_neg hn, hz]
          show _ = some ((match isS D sup k z.1 with | some v => x + v | none => match nxt D B inf (z.2.getD z.1) with | none => _ | some c => _), r1)
          rw [hS, c]
        | some c1 =>
          obtain ⟨n1, n2, n3, y, n4, n5⟩ := nxt_some W c
          have em : mgW D B inf vs sup (g + 1) V k j x = mgW D B inf vs sup g (V ++ [(k, j)]) c1.1 c1.2 (x + valS D vs (ix (D.1 21 (z.2.getD z.1))) (ix (D.1 22 (z.2.getD z.1)))) := by
            rw [mgW.eq_2, if_neg hn, hz]
            show (match isS D sup k z.1 with | some v => x + v | none => match nxt D B inf (z.2.getD z.1) with | none => _ | some c => _) = _
            rw [hS, c]
          rw [em]
          obtain ⟨r', d1, d2, d3⟩ := R_walk_e W Wi hn60 hWB g fu (V ++ [(k, j)]) c1.1 c1.2 (x + valS D vs (ix (D.1 21 (z.2.getD z.1))) (ix (D.1 22 (z.2.getD z.1)))) r1 y (by omega) (by omega) hN' hV' n1 n4 n5 (M2.Ch b1 (by decide) (by decide) b2)
          exact ⟨r', d1, c3.trans d2, by omega⟩
      cases hs : sup with
      | none =>
        rw [hs] at N
        rw [M2.2.2.2.2.2.2.2.2.1 hs, if_neg (by rw [nj_ne_m1 (by omega)]; exact id)]
        exact N rfl
      | some s =>
        obtain ⟨s1, s2, s3, s4⟩ := M2.2.2.2.2.2.2.2.2.2 s hs
        rw [s2, s3]
        by_cases q : s.1 = k
        · rw [if_pos (by rw [q])]
          by_cases q2 : D.1 16 z.1 = s.2.1
          · rw [if_pos q2]
            refine ⟨m, ?_, c2, hC2⟩
            unfold R_marginOf_79
            rw [s4, mgW.eq_2, if_neg hn, hz]
            show _ = some ((match isS D (some s) k z.1 with | some v => x + v | none => _), m)
            have : isS D (some s) k z.1 = some s.2.2 := if_pos ⟨q, q2⟩
            rw [this]
          · rw [if_neg q2, ← hs]
            exact N (by rw [hs]; exact if_neg fun e => q2 e.2)
        · rw [if_neg (fun e => q ((nj_inj (by omega) (by omega)).mp e).symm), ← hs]
          exact N (by rw [hs]; exact if_neg fun e => q e.1)
end Wt
