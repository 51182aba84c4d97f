/-! Layer C: margin -/
section Mg
variable {fa ta ia sa ca : Nat → Nat} {od : List Nat} {p r : Mem} {D : Dt} {nc : Nat} {B : BSt} {inf : Nat → Bool} {vs : Nat → Int32} {sup : Sup}
/-- what the class's walk finds, stamps aside -/
def MgQ (ta ia : Nat → Nat) (D : Dt) (B : BSt) (inf : Nat → Bool) (vs : Nat → Int32) (sup : Sup) (p : Mem) : Prop :=
  (∀ k, k < D.2.1 → mI p 1287 (ta k) = tI (inf k)) ∧ (∀ k, k < D.2.1 → inf k = true → isW D k = true → RowsP ta ia p k (B.1 k)) ∧ (∀ j, j < 12 → aI p 27 j = vs j) ∧
  mR p 1158 25 = sup.map (fun s => ta s.1) ∧ ∀ s, sup = some s → s.1 < D.2.1 ∧ mI p 1159 25 = s.2.1 ∧ mI p 1160 25 = s.2.2
/-- stamps are not above the count of walks -/
def Stm (ta : Nat → Nat) (D : Dt) (w : Nat) (p : Mem) : Prop := mI p 1157 25 = nj w ∧ ∀ k j, k < D.2.1 → 0 ≤ aI p (ta k + 3) j ∧ aI p (ta k + 3) j ≤ nj w
theorem P_marginOf_e (W : WText D nc) (Wi : WItems D nc) (hn60 : nc ≤ 60) (hWB : ∀ k, k < D.2.1 → WRow D (B.1 k).1) (L : Lk fa ta ia sa ca od p D) (T : Top p) (hp : PL p) {w : Nat} (hS : Stm ta D w p) (hw : w < 2147483647) (M : MgQ ta ia D B inf vs sup p) {k j : Nat} {z : Row} (hk : k < D.2.1) (hi : inf k = true) (hwk : isW D k = true) (hz : (B.1 k).1[j]? = some z) (h2 : D.1 15 z.1 = 2) :
    ∃ p', P_Scene_marginOf (some (ta k)) (nj j) p = some (hld (mgW D B inf vs sup 1441 [] k j 0), p') ∧ Stm ta D (w + 1) p' ∧ Ch [1157] [4] (dy3 ta D.2.1) p p' ∧ mC p' = mC p ∧ mS p' = mS p := by
  have T1 := T.1
  have c1 : Ch [1157] [] (dy3 ta D.2.1) p (sI p 1157 25 (nj (w + 1))) := Ch.rfl.sI (by decide)
  have e57 : mI (sI p 1157 25 (nj (w + 1))) 1157 25 = nj (w + 1) := by rw [k_mI_sI_e, up1_eq]
  have L1 : Lk fa ta ia sa ca od (sI p 1157 25 (nj (w + 1))) D := L.Ch T (c1.mono (fun _ h => h) (fun _ h => h) (dy3_T L.2.1)) (by decide) (by decide)
  have lt1 : nj w < nj (w + 1) := by rw [nj_lt (by omega) (by omega)]; omega
  have M1 : MgP ta ia D B inf vs sup [] (sI p 1157 25 (nj (w + 1))) := by
    obtain ⟨h1, h2, h3, h5, h6⟩ := M
    refine ⟨fun k hk => ?_, fun k hk a b => ?_, fun j hj => ?_, fun k j hk => ?_, ?_, fun s hs => ?_⟩
    · rw [k_mI_sI (by omega)]; exact h1 k hk
    · unfold RowsP
      rw [k_mI_sI (by omega), k_mI_sI (by omega), k_mI_sI (by omega)]
      exact h2 k hk a b
    · exact h3 j hj
    · rw [e57]
      have := hS.2 k j hk
      constructor
      · intro e
        change aI p (ta k + 3) j = _ at e
        rw [e] at this
        grind
      · intro e
        cases e
    · exact h5
    · rw [k_mI_sI (by omega), k_mI_sI (by omega)]; exact h6 s hs
  obtain ⟨p', a1, a2, a3, a4, a5⟩ := P_walk_e W Wi hn60 hWB 1441 FU [] k j 0 _ z rfl (by unfold FU; omega) List.nodup_nil (fun _ h => absurd h List.not_mem_nil) hk hi hwk hz h2 List.not_mem_nil L1 (T.Ch c1) (hp.Ch c1 (by decide)) M1
  refine ⟨p', ?_, ⟨?_, fun l i hl => ?_⟩, (c1.mono (by simp) (by simp) (fun _ h => h)).trans (a2.mono (by simp) (by simp) (fun _ h => h)), a3, a4⟩
  · unfold P_Scene_marginOf
    rw [vb_e, hS.1, nj_add_l]
    exact a1
  · rw [a2.i List.not_mem_nil (by show 25 < mC p; omega)]; exact e57
  · have h0 := hS.2 l i hl
    have n0 : (0 : Int32) ≤ nj (w + 1) := Int32.not_lt.mp (by rw [nj_nneg (by omega)]; exact id)
    rcases a5 l i hl with q | q
    · rw [q]
      refine ⟨h0.1, ?_⟩
      have := h0.2
      show aI p (ta l + 3) i ≤ _
      grind
    · rw [q, e57]
      exact ⟨n0, Int32.le_refl _⟩
theorem hld_e (x : Int32) : R_held x (-9999) 9999 = some (hld x) := by
  unfold R_held hld jmax jmin
  grind
theorem R_marginOf_e (W : WText D nc) (Wi : WItems D nc) (hn60 : nc ≤ 60) (hWB : ∀ k, k < D.2.1 → WRow D (B.1 k).1) (hD : dat r = D) (hC : 82 ≤ mC r) (h54 : mI r 1554 0 = nj D.2.1) (h52 : ∀ k, k < D.2.1 → aI r 52 k = tI (inf k)) (hR : ∀ k, k < D.2.1 → RowsR r k (B.1 k)) (h50 : ∀ j, j < 12 → aI r 50 j = vs j) (hs1 : sup = none → mI r 1622 0 = -1) (hs2 : ∀ s, sup = some s → s.1 < D.2.1 ∧ mI r 1622 0 = nj s.1 ∧ mI r 1623 0 = s.2.1 ∧ mI r 1624 0 = s.2.2) {k j : Nat} {z : Row} (hk : k < D.2.1) (hz : (B.1 k).1[j]? = some z) (h2 : D.1 15 z.1 = 2) :
    ∃ r', R_marginOf (nj (64 * k + j)) r = some (mgW D B inf vs sup 1441 [] k j 0, r') ∧ Ch wkF wkA nil r r' ∧ mC r' = mC r := by
  have c1 : Ch wkF wkA nil r (sI r 1625 0 0) := Ch.rfl.sI (by decide)
  have hd : dat (sI r 1625 0 0) = D := by rw [← hD]; exact dat_Ch c1 hC (by decide) (by decide)
  obtain ⟨r', a1, a2, a3⟩ := R_walk_e (vs := vs) (inf := inf) (sup := sup) W Wi hn60 hWB 1441 FU [] k j 0 (sI r 1625 0 0) z rfl (by unfold FU; omega) List.nodup_nil (fun _ h => absurd h List.not_mem_nil) hk hz h2 ⟨hd, hC, by rw [k_mI_sI (by omega)]; exact h54, h52, hR, h50, by rw [k_mI_sI_e, up1_eq]; rfl, fun i v hv => by simp at hv, fun e => by rw [k_mI_sI (by omega)]; exact hs1 e, fun s e => by rw [k_mI_sI (by omega), k_mI_sI (by omega), k_mI_sI (by omega)]; exact hs2 s e⟩
  refine ⟨r', ?_, c1.trans a2, a3⟩
  unfold R_marginOf
  rw [vb_e]
  exact a1
theorem Bt.Ch {F A : List Nat} {r' : Mem} {d f n : Nat} (h : Bt D d f n r) (c : Ch F A nil r r') (hC : 82 ≤ mC r) (hA : (A.all fun a => a < 52 || 58 < a) = true) : Bt D d f n r' := by
  have a1 : ∀ a, 52 ≤ a → a ≤ 58 → aI r' a = aI r a := fun a q1 q2 => c.ai (fun q => by
    have := List.all_eq_true.mp hA a q
    simp at this
    omega) nil_no (by omega)
  unfold Bt Bu2 RowsR
  rw [a1 52 (by omega) (by omega), a1 53 (by omega) (by omega), a1 54 (by omega) (by omega), a1 55 (by omega) (by omega), a1 56 (by omega) (by omega), a1 57 (by omega) (by omega), a1 58 (by omega) (by omega)]
  exact h
theorem BCache.Ch {F A : List Nat} {r' : Mem} (h : BCache D r) (c : Ch F A nil r r') (hC : 82 ≤ mC r) (hF : (F.all fun f => f < 1612 || 1614 < f) = true) (hA : (A.all fun a => a < 52 || 58 < a) = true) : BCache D r' := by
  have f1 : ∀ f, 1612 ≤ f → f ≤ 1614 → mI r' f 0 = mI r f 0 := fun f q1 q2 => c.i (fun q => by
    have := List.all_eq_true.mp hF f q
    simp at this
    omega) (by omega)
  unfold BCache
  rw [f1 1612 (by omega) (by omega), f1 1613 (by omega) (by omega), f1 1614 (by omega) (by omega)]
  rcases h with h | ⟨d, f, n, h1, h2, h3, h4, h5, h6, h7⟩
  · exact Or.inl h
  · exact Or.inr ⟨d, f, n, h1, h2, h3, h4, h5, h6, h7.Ch c hC hA⟩
theorem R_heldMargin_e (W : WText D nc) (Wi : WItems D nc) (hn60 : nc ≤ 60) (hD : dat r = D) (hC : 82 ≤ mC r) (h54 : mI r 1554 0 = nj D.2.1) {d f n : Nat} (hd : d < 140) (hf : f < 8) (hn : n ≤ D.2.2) (hB : Bt D d f n r) (e1 : mI r 1612 0 = nj d) (e2 : mI r 1613 0 = nj f) (e3 : mI r 1614 0 = nj n) (hs1 : sup = none → mI r 1622 0 = -1) (hs2 : ∀ s, sup = some s → s.1 < D.2.1 ∧ mI r 1622 0 = nj s.1 ∧ mI r 1623 0 = s.2.1 ∧ mI r 1624 0 = s.2.2) {k j : Nat} {z : Row} (hk : k < D.2.1) (hz : ((bQ D d f n).1 k).1[j]? = some z) (h2 : D.1 15 z.1 = 2) (yrs : Int32) :
    ∃ r', R_heldMargin (nj (64 * k + j)) yrs r = some (hld (mgW D (bQ D d f n) (infO D d f n) (vS D f d n yrs) sup 1441 [] k j 0), r') ∧ Ch wkF (50 :: wkA) nil r r' ∧ mC r' = mC r := by
  obtain ⟨r1, a1, a2, a3, a4⟩ := R_stands_e hD hC W.2.1 hd hf hn
  have c2 : Ch [] [50] nil r (wI r1 50 1 yrs) := a3.wI (Or.inl (by decide))
  have hd2 : dat (wI r1 50 1 yrs) = D := by rw [← hD]; exact dat_Ch c2 hC (by decide) (by decide)
  have hB2 := hB.Ch c2 hC (by decide)
  have v50 : ∀ i, i < 12 → aI (wI r1 50 1 yrs) 50 i = vS D f d n yrs i := fun i hi => by
    rw [k_aI_wI_e, up1_ap]
    by_cases q : i = 1
    · subst q; rfl
    · rw [if_neg q, a2 i hi]
      unfold vS
      rw [if_neg q, if_neg q]
  have hC2 : mC (wI r1 50 1 yrs) = mC r := by rw [k_mC_wI]; exact a4
  obtain ⟨r', b1, b2, b3⟩ := R_marginOf_e (sup := sup) W Wi hn60 (fun k hk => bQ_W W hd hk) hd2 (by omega) (by rw [c2.i List.not_mem_nil (by omega)]; exact h54) hB2.1 hB2.2.1 v50 (fun e => by rw [c2.i List.not_mem_nil (by omega)]; exact hs1 e) (fun s e => by rw [c2.i List.not_mem_nil (by omega), c2.i List.not_mem_nil (by omega), c2.i List.not_mem_nil (by omega)]; exact hs2 s e) hk hz h2
  refine ⟨r', ?_, (c2.mono (by simp) (by simp) (fun _ h => h)).trans (b2.mono (fun _ h => h) (by simp [wkA]) (fun _ h => h)), by omega⟩
  unfold R_heldMargin
  rw [e1, e2, e3, a1, bn_s, inb_lit (show (1 : Nat) < 2147483648 by omega), gd_t (by decide), vb_e, ix_lit (show (1 : Nat) < 2147483648 by omega)]
  show bn (R_marginOf _ (wI r1 50 1 yrs)) _ = _
  rw [b1, bn_s, hld_e, bp_s]
end Mg
