/-! Layer C: the class's walk, step by step -/
section Wp
variable {fa ta ia sa ca : Nat → Nat} {od : List Nat} {p : Mem} {D : Dt} {nc : Nat} {B : BSt} {inf : Nat → Bool} {vs : Nat → Int32} {sup : Sup}
theorem P_194_e (x : Int32) (p : Mem) : P_Scene_marginOf_194 x p = some (hld x, p) := by
  unfold P_Scene_marginOf_194 P_held
  rw [bp_s]
  rfl
/-- the ITEM that tells a row's margin -/
theorem tell_e (Wi : WItems D nc) {L : List Row} (hW : WRow D L) {z : Row} (hz : z ∈ L) (h2 : D.1 15 z.1 = 2) : isI D (z.2.getD z.1) ∧ (D.1 15 (z.2.getD z.1) = 2 ∨ D.1 15 (z.2.getD z.1) = 8) ∧ ∃ a b, a ≤ b ∧ b ≤ 500 * D.2.1 ∧ D.1 21 (z.2.getD z.1) = nj a ∧ D.1 22 (z.2.getD z.1) = nj b ∧ wfC D a (b - a) 0 := by
  obtain ⟨z1, -, z3⟩ := hW.1 z hz
  have hs : isI D (z.2.getD z.1) ∧ (D.1 15 (z.2.getD z.1) = 2 ∨ D.1 15 (z.2.getD z.1) = 8) := by
    cases c : z.2 with
    | none => exact ⟨z1, Or.inl h2⟩
    | some i => exact ⟨(z3 i c).1, Or.inr (z3 i c).2.1⟩
  refine ⟨hs.1, hs.2, ?_⟩
  obtain ⟨k, j, hk, hj, e⟩ := hs.1
  obtain ⟨s, s1, s2, -, -, -, -, -, -, -, s9, -⟩ := Wi k j hk hj
  rw [← e] at s2 s9
  refine s9 ?_
  rcases hs.2 with q | q
  · rw [s2] at q
    exact Or.inl ((nj_inj (b := 2) (by omega) (by omega)).mp q)
  · rw [s2] at q
    exact Or.inr (Or.inr (Or.inr ((nj_inj (b := 8) (by omega) (by omega)).mp q)))
def WkP (ta ia : Nat → Nat) (D : Dt) (p p' : Mem) : Prop := Ch [] [4] (dy3 ta D.2.1) p p' ∧ mC p' = mC p ∧ mS p' = mS p ∧ ∀ k j, k < D.2.1 → aI p' (ta k + 3) j = aI p (ta k + 3) j ∨ aI p' (ta k + 3) j = mI p 1157 25
theorem WkP.rfl : WkP ta ia D p p := ⟨Ch.rfl, by trivial, by trivial, fun _ _ _ => Or.inl (by trivial)⟩
theorem WkP.trans {p1 p2 : Mem} (T : Top p) (h : WkP ta ia D p p1) (g : WkP ta ia D p1 p2) : WkP ta ia D p p2 := by
  obtain ⟨a1, a2, a3, a4⟩ := h
  obtain ⟨b1, b2, b3, b4⟩ := g
  have T1 := T.1
  refine ⟨a1.trans b1, b2.trans a2, b3.trans a3, fun k j hk => ?_⟩
  have e : mI p1 1157 25 = mI p 1157 25 := a1.i List.not_mem_nil (by omega)
  rcases b4 k j hk with q | q
  · rw [q]; exact a4 k j hk
  · exact Or.inr (q.trans e)
/-- one row is come to -/
theorem P_66_e (W : WText D nc) (Wi : WItems D nc) (hn60 : nc ≤ 60) (hWB : ∀ k, k < D.2.1 → WRow D (B.1 k).1) (L : Lk fa ta ia sa ca od p D) (T : Top p) (hp : PL p) {V : List (Nat × Nat)} (h : MgP ta ia D B inf vs sup V p) {k j : Nat} {x x6 : Int32} {z : Row} (hk : k < D.2.1) (hi : inf k = true) (hw : isW D k = true) (hz : (B.1 k).1[j]? = some z) (h2 : D.1 15 z.1 = 2) (kk : Int32 → Option Nat → Int32 → Int32 → Mem → Option (Int32 × Mem)) :
    ∃ p1, WkP ta ia D p p1 ∧ MgP ta ia D B inf vs sup (V ++ [(k, j)]) p1 ∧ P_Scene_marginOf_66 kk x (some (ta k)) (nj j) x6 p = (match nxt D B inf (z.2.getD z.1) with
      | none => some (hld (x + valS D vs (ix (D.1 21 (z.2.getD z.1))) (ix (D.1 22 (z.2.getD z.1)))), p1)
      | some c => if c ∈ V ++ [(k, j)] then some (hld (x + valS D vs (ix (D.1 21 (z.2.getD z.1))) (ix (D.1 22 (z.2.getD z.1)))), p1) else kk (x + valS D vs (ix (D.1 21 (z.2.getD z.1))) (ix (D.1 22 (z.2.getD z.1)))) (some (ta c.1)) (nj c.2) (x6 + 1) p1) := by
  have T1 := T.1
  have h24 := W.1
  have hw' : D.1 8 k = 0 ∨ D.1 8 k = 3 := of_decide_eq_true hw
  have hlen := (hWB k hk).len Wi hn60
  have hj : j < (B.1 k).1.length := (List.getElem?_eq_some_iff.mp hz).1
  obtain ⟨i1, i2, a, b, i3, i4, i5, i6, i7⟩ := tell_e Wi (hWB k hk) (List.mem_of_getElem? hz) h2
  obtain ⟨r1, r2⟩ := (h.2.1 k hk hi hw).2.1 j z hz
  generalize z.2.getD z.1 = it at *
  obtain ⟨y1, y2, y3⟩ := isI_30 W i1
  have hI := L.2.2.2.1 (it / 30) (it % 30) y1 y2
  have ez : 30 * (it / 30) + it % 30 = it := by omega
  rw [ez] at hI
  have sep := (L.2.2.2.2.1 (it / 30) (it % 30) y1 y2).1
  rw [ez] at sep
  obtain ⟨ia1, ia2, ia3, ia4, ia5, ia6, ia7, ia8, -, ia10, -, ia12, -, ia14, -⟩ := hI
  obtain ⟨t1, t2, -, -, -, -, -, -, -, -, -, -, t13, t14, t15, t16, t17, t18, t19, t20, t21⟩ := L.2.1.2.1 k hk
  have lia : ia it < mC p := T.lt (by rw [ia2]; decide)
  have lta : ta k < mC p := T.lt (by rw [t2]; decide)
  have lt2 : ta k + 2 < mC p := T.lt (by rw [t18]; decide)
  have lt3 : ta k + 3 < mC p := T.lt (by rw [t19]; decide)
  have c7 : Ch [] [] (dy3 ta D.2.1) p (wI p (ta k + 3) j (mI p 1157 25)) := Ch.rfl.wI (Or.inr ⟨k, hk, rfl⟩)
  generalize hm7 : wI p (ta k + 3) j (mI p 1157 25) = m7 at c7
  have hA7 : Arr m7 (sa it) (segS D a b) := by
    have := ia14 (by rcases i2 with q | q; exact Or.inl q; exact Or.inr (Or.inr (Or.inr q)))
    rw [i5, i6, ix_nj (by omega), ix_nj (by omega)] at this
    exact this.Ch T c7 List.not_mem_nil (fun q => sep (dy3_T L.2.1 _ q))
  have n27 : ¬ dy3 ta D.2.1 27 := fun ⟨k, hk, e⟩ => by have := (L.2.1.2.1 k hk).1; omega
  obtain ⟨p1, f1, f2, f3, f4⟩ := P_result_e (vs := vs) (va := 27) (tk := 0) ia10 (by omega) hA7 (by rw [c7.t (by omega)]; exact (PC_27 hp).1) (by rw [c7.n (by omega)]; exact (PC_27 hp).2) (fun j hj => by rw [c7.ai List.not_mem_nil n27 (by omega)]; exact h.2.2.1 j hj)
  rw [sum_eq i7] at f1
  have e21 : valS D vs (ix (D.1 21 it)) (ix (D.1 22 it)) = valS D vs a b := by rw [i5, i6, ix_nj (by omega), ix_nj (by omega)]
  have hC7 : mC m7 = mC p := by rw [← hm7, k_mC_wI]
  have c1 : Ch [] [4] (dy3 ta D.2.1) p p1 := (c7.mono (by simp) (by simp) (fun _ h => h)).trans (f2.mono (by simp) (by simp) (fun _ h => h.elim))
  have hwk : ∀ l i, l < D.2.1 → aI p1 (ta l + 3) i = if l = k ∧ i = j then mI p 1157 25 else aI p (ta l + 3) i := fun l i hl => by
    obtain ⟨u1, -, -, -, -, -, -, -, -, -, -, -, -, -, -, -, -, -, u19, -⟩ := L.2.1.2.1 l hl
    have ll : ta l + 3 < mC p := T.lt (by rw [u19]; decide)
    rw [f2.ai (by simp; omega) nil_no (by omega), ← hm7]
    by_cases q : l = k
    · subst q
      rw [k_aI_wI_e, up1_ap]
      by_cases q2 : i = j
      · rw [if_pos q2, if_pos ⟨rfl, q2⟩]
      · rw [if_neg q2, if_neg (fun z => q2 z.2)]
    · rw [k_aI_wI (fun e => q (ta_inj L hl hk (by omega))), if_neg (fun z => q z.1)]
  have M1 : MgP ta ia D B inf vs sup (V ++ [(k, j)]) p1 := h.Ch L T c1 (by decide) fun l i hl => by
    rw [hwk l i hl, List.mem_append, List.mem_singleton, ← h.2.2.2.1 l i hl]
    by_cases q : l = k ∧ i = j
    · rw [if_pos q, q.1, q.2]
      exact ⟨fun _ => Or.inr rfl, fun _ => rfl⟩
    · rw [if_neg q]
      exact ⟨Or.inl, fun z => z.elim id fun e => absurd ⟨congrArg Prod.fst e, congrArg Prod.snd e⟩ q⟩
  have L1 : Lk fa ta ia sa ca od p1 D := L.Ch T (c1.mono (fun _ h => h) (fun _ h => h) (dy3_T L.2.1)) (by decide) (by decide)
  refine ⟨p1, ⟨c1, by rw [f3, hC7], by rw [f4, ← hm7, k_mS_wI], fun l i hl => ?_⟩, M1, ?_⟩
  · rw [hwk l i hl]
    by_cases q : l = k ∧ i = j
    · rw [if_pos q]; exact Or.inr rfl
    · rw [if_neg q]; exact Or.inl rfl
  have r27 : aR m7 (ta k + 2) j = some (ia it) := by
    rw [← hm7]
    exact r2
  have e260 : mI p1 260 (ia it) = mI p 260 (ia it) := c1.i List.not_mem_nil lia
  have e261 : mI p1 261 (ia it) = mI p 261 (ia it) := c1.i List.not_mem_nil lia
  unfold P_Scene_marginOf_66
  rw [gs_s, gt_t t2, t15, gs_s, gt_t t19, (t21 hw').2.2.1, inb_nj (by omega), gd_t (decide_eq_true (by omega)), ix_nj (by omega), vb_e, hm7, c7.r List.not_mem_nil lta, t14, gs_s, gt_t (by rw [c7.t lt2]; exact t18), c7.n lt2, (t21 hw').2.1, inb_nj (by omega), gd_t (decide_eq_true (by omega)), r27, gs_s, gt_t (by rw [c7.t lia]; exact ia2), c7.r List.not_mem_nil lia, ia8, f1, bn_s, vb_e, gt_t (by rw [c1.t lia]; exact ia2), e260, e21]
  have no : P_Scene_marginOf_133 kk (x + valS D vs a b) x6 (some (ia it)) none p1 = some (hld (x + valS D vs a b), p1) := by
    unfold P_Scene_marginOf_133 P_Scene_marginOf_148 P_Scene_marginOf_162
    rw [if_pos rfl, if_pos rfl, P_194_e]
  by_cases q : D.1 15 it = 2 ∧ D.1 18 it = 1
  · obtain ⟨g1, g2, g3⟩ := ia6 q.1
    rw [if_pos q.2] at g2 g3
    obtain ⟨s, s1, s2, -, -, -, -, s7, -⟩ := Wi (it / 30) (it % 30) y1 y2
    rw [ez] at s2 s7
    have s2' : s = 2 := (nj_inj (b := 2) (by omega) (by omega)).mp (s2.symm.trans q.1)
    obtain ⟨-, s8, -⟩ := s7 s2'
    obtain ⟨u, w, hu, hw2, e19, e20⟩ := s8 q.2
    rw [g2, if_neg (by rw [e19, nj_ne_m1 (by omega)]; exact id), P_awardNamed_e L1 W, bn_s]
    have hnx : nxt D B inf it = (match awd D (D.1 19 it) with
        | some k => if inf k then (ent D B k (D.1 20 it)).map fun j => (k, j) else none
        | none => none) := if_pos q
    cases ca : awd D (D.1 19 it) with
    | none => rw [hnx, ca]; exact no
    | some l =>
      obtain ⟨l1, l2, l3⟩ := (awd_iff W).mp ca
      have lw : isW D l = true := decide_eq_true (Or.inl l2)
      obtain ⟨-, v2, -, -, -, -, -, -, -, -, -, -, v13, v14, v15, v16, v17, v18, v19, v20, v21⟩ := L1.2.1.2.1 l l1
      show P_Scene_marginOf_133 kk _ x6 (some (ia it)) (some (ta l)) p1 = _
      unfold P_Scene_marginOf_133
      rw [if_neg (by simp), gs_s, gt_t v2, M1.1 l l1]
      cases cf : inf l with
      | false =>
        have hnx' : nxt D B inf it = none := by rw [hnx, ca]; simp [cf]
        unfold P_Scene_marginOf_148 P_Scene_marginOf_162
        rw [hnx', if_pos rfl, if_pos (by rfl), P_194_e]
      | true =>
        rw [if_neg (by decide), gs_s, gt_t (by rw [c1.t lia]; exact ia2), e261, g3, P_classEntry_e L1 l1 (Or.inl l2) (M1.2.1 l l1 cf lw) (hWB l l1) ((hWB l l1).len Wi hn60), bn_s]
        show P_Scene_marginOf_162 kk _ (some (ta l)) x6 (jo (ent D B l (D.1 20 it))) p1 = _
        unfold P_Scene_marginOf_162
        cases cn : ent D B l (D.1 20 it) with
        | none =>
          have hnx' : nxt D B inf it = none := by rw [hnx, ca]; simp [cf, cn]
          rw [hnx', if_pos (by rfl), P_194_e]
        | some i =>
          obtain ⟨y, e1, -⟩ := ent_some cn
          have li : i < (B.1 l).1.length := (List.getElem?_eq_some_iff.mp e1).1
          have ll := (hWB l l1).len Wi hn60
          rw [if_neg (by show ¬ nj i = -1; rw [nj_ne_m1 (by omega)]; exact id), gs_s, gt_t v2, v15, gs_s, gt_t v19, (v21 (Or.inl l2)).2.2.1]
          show gd (inb (nj i) 60) (if aI p1 (ta l + 3) (ix (nj i)) = mI p1 1157 25 then _ else _) = _
          rw [inb_nj (by omega), gd_t (decide_eq_true (by omega)), ix_nj (by omega)]
          have hv := M1.2.2.2.1 l i l1
          have hnx' : nxt D B inf it = some (l, i) := by rw [hnx, ca]; simp [cf, cn]
          rw [hnx']
          show _ = if (l, i) ∈ V ++ [(k, j)] then _ else _
          by_cases cv : (l, i) ∈ V ++ [(k, j)]
          · rw [if_pos (hv.mpr cv), if_pos cv]
            unfold P_Scene_marginOf_185
            rw [P_194_e]
          · rw [if_neg (fun e => cv (hv.mp e)), if_neg cv]
            rfl
  · have e0 : mI p 260 (ia it) = -1 := by
      by_cases q2 : D.1 15 it = 2
      · rw [(ia6 q2).2.1, if_neg (fun e => q ⟨q2, e⟩)]
      · exact ia7 q2
    rw [e0, if_pos rfl, no]
    unfold nxt
    rw [if_neg q]
end Wp
