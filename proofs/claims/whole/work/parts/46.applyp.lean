/-! Layer C: the class's apply -/
def PKeep (ta ia : Nat → Nat) (D : Dt) (k of : Nat) (p p' : Mem) : Prop := Ch [268, 1292, 1293, 1294] [4] (fun a => a = ta k + 1 ∨ a = ta k + 2) p p' ∧ mC p' = mC p ∧ mS p' = mS p ∧ (∀ x, x < mC p → x ≠ ta k → mI p' 1292 x = mI p 1292 x ∧ mI p' 1293 x = mI p 1293 x ∧ mI p' 1294 x = mI p 1294 x) ∧ ∀ x, x < mC p → (∀ j, j < ix (D.1 14 of) → x ≠ ia (30 * of + j)) → mI p' 268 x = mI p 268 x
section Pa
variable {fa ta ia sa ca : Nat → Nat} {od : List Nat} {p : Mem} {D : Dt} {nc k of : Nat} {S : RS} {vs : Nat → Int32}
theorem PL.Ch {F A : List Nat} {dy : Nat → Prop} {p' : Mem} (h : PL p) (c : Ch F A dy p p') (hF : (F.all fun f => !(P_refs.any fun q => q.1 == f)) = true) : PL p' := by
  have h51 := h.1
  have lt1 : ∀ q, q ∈ P_cells → q.1 < 51 := fun q hq => by
    have hall : (P_cells.all fun q => decide (q.1 < 51)) = true := by decide
    exact of_decide_eq_true (List.all_eq_true.mp hall q hq)
  have lt2 : ∀ q, q ∈ P_refs → q.2.1 < 51 := fun q hq => by
    have hall : (P_refs.all fun q => decide (q.2.1 < 51)) = true := by decide
    exact of_decide_eq_true (List.all_eq_true.mp hall q hq)
  refine ⟨Nat.le_trans h.1 c.1.1, fun i q hq => ?_, fun i q hq => ?_⟩
  · have := lt1 q (List.mem_of_getElem? hq)
    rw [c.t (by omega), c.n (by omega)]
    exact h.2.1 i q hq
  · have := lt2 q (List.mem_of_getElem? hq)
    rw [c.r (fun z => by
      have h1 := List.all_eq_true.mp hF _ z
      simp at h1
      exact h1 _ _ _ (List.mem_of_getElem? hq) rfl) (by omega)]
    exact h.2.2 i q hq
theorem PKeep.trans {p1 p2 : Mem} (h : PKeep ta ia D k of p p1) (g : PKeep ta ia D k of p1 p2) : PKeep ta ia D k of p p2 := by
  obtain ⟨a1, a2, a3, a4, a5⟩ := h
  obtain ⟨b1, b2, b3, b4, b5⟩ := g
  refine ⟨a1.trans b1, b2.trans a2, b3.trans a3, fun x hm hx => ?_, fun x hm hx => ?_⟩
  · have := a4 x hm hx
    have := b4 x (by omega) hx
    grind
  · rw [b5 x (by omega) hx, a5 x hm hx]
theorem PKeep.lk {p' : Mem} (h : PKeep ta ia D k of p p') (L : Lk fa ta ia sa ca od p D) (T : Top p) (hk : k < D.2.1) : Lk fa ta ia sa ca od p' D :=
  L.Ch T (h.1.mono (fun _ h => h) (fun _ h => h) (fun a ha => ⟨k, hk, by omega⟩)) (by decide) (by decide)
/-- an ITEM is done by the class -/
theorem P_fateOf_e (L : Lk fa ta ia sa ca od p D) (T : Top p) (hp : PL p) (W : WItems D nc) (hn60 : nc ≤ 60) (h24 : D.2.1 ≤ 24) (hk : k < D.2.1) (hof : of < D.2.1) (h60 : D.1 8 k = 0 ∨ D.1 8 k = 3) {j : Nat} (hj : j < ix (D.1 14 of)) (hR : RowsP ta ia p k S) (hW : WRow D S.1) (hv : ∀ j, j < 12 → aI p 26 j = vs j) :
    ∃ p', P_Scene_fateOf (some (ia (30 * of + j))) (some (ta k)) p = some ((apI D vs of (30 * of + j) S).2, p') ∧ RowsP ta ia p' k (apI D vs of (30 * of + j) S).1 ∧ FK ta k p p' := by
  have hlen := hW.len W hn60
  have I := L.2.2.2.1 of j hof hj
  have hi : isI D (30 * of + j) := ⟨of, j, hof, hj, rfl⟩
  obtain ⟨s, w1, w2, w3, w4, w5, w6, w7, w8, w9, w10, w11, w12⟩ := W of j hof hj
  obtain ⟨-, t2, -, -, -, -, -, -, -, -, -, -, t13, t14, -, -, t17, t18, -, -, t21⟩ := L.2.1.2.1 k hk
  have e256 : mI p 256 (ia (30 * of + j)) = nj (s + 32) := by rw [I.2.2.1, w2, nj_add_l]
  have q : ∀ c : Nat, c < 100 → ((nj (s + 32) = nj (c + 32)) = (s = c)) := fun c hc => by rw [nj_inj (by omega) (by omega)]; exact propext (by omega)
  have q15 : ∀ c : Nat, c < 100 → ((D.1 15 (30 * of + j) = nj c) = (s = c)) := fun c hc => by rw [w2, nj_inj (by omega) (by omega)]
  have PUT : s = 2 ∨ s = 4 ∨ s = 5 → ∃ p', (gs (some (ta k)) fun a4 => gt p a4 11 <| bn (P_Text_put a4 (some (ia (30 * of + j))) p) fun _ m7 => some (0, m7)) = some ((apI D vs of (30 * of + j) S).2, p') ∧ RowsP ta ia p' k (apI D vs of (30 * of + j) S).1 ∧ FK ta k p p' := by
    intro hs
    have hs' : D.1 15 (30 * of + j) = 2 ∨ D.1 15 (30 * of + j) = 4 ∨ D.1 15 (30 * of + j) = 5 := by
      rcases hs with h | h | h
      · exact Or.inl (by rw [w2, h]; rfl)
      · exact Or.inr (Or.inl (by rw [w2, h]; rfl))
      · exact Or.inr (Or.inr (by rw [w2, h]; rfl))
    obtain ⟨p', e1, e2, e3⟩ := P_put_e L T W hn60 hk h60 hR hW hi hs'
    have eA : apI D vs of (30 * of + j) S = ((match fnd D (D.1 16 (30 * of + j)) S.1 0 with
      | some j' => (S.1.set j' (30 * of + j, none), S.2)
      | none => (S.1 ++ [(30 * of + j, none)], S.2)), 0) := by
      unfold apI
      rw [if_pos hs']
      cases fnd D (D.1 16 (30 * of + j)) S.1 0 <;> rfl
    refine ⟨p', ?_, ?_, e3⟩
    · rw [gs_s, gt_t t2, e1, bn_s, eA]
    · rw [eA]; exact e2
  have S3 : ∀ c : Nat, c < 100 → s ≠ c → ¬ mI p 256 (ia (30 * of + j)) = nj (c + 32) := fun c hc hne => by rw [e256, q c hc]; exact hne
  have S4 : ∀ c : Nat, c < 100 → s ≠ c → ¬ D.1 15 (30 * of + j) = nj c := fun c hc hne => by rw [q15 c hc]; exact hne
  unfold P_Scene_fateOf
  rw [gs_s, gt_t I.2.1]
  by_cases c2 : s = 2
  · rw [if_pos (show mI p 256 (ia (30 * of + j)) = 34 by rw [e256, c2]; rfl)]; exact PUT (Or.inl c2)
  rw [if_neg (show ¬ mI p 256 (ia (30 * of + j)) = 34 from S3 2 (by omega) c2)]
  by_cases c3 : s = 3
  · have eA : apI D vs of (30 * of + j) S = ((S.1, D.1 17 (30 * of + j), S.2.2), 0) := by
      unfold apI
      rw [if_neg (by rintro (h | h | h); exact S4 2 (by omega) c2 h; exact S4 4 (by omega) (by omega) h; exact S4 5 (by omega) (by omega) h), if_pos (show D.1 15 (30 * of + j) = 3 by rw [w2, c3]; rfl)]
    have I17 := I.2.2.2.2.2.2.2.2.2.2.2.2.2.2.2.2.1 (by rw [w2, c3]; rfl)
    rw [if_pos (show mI p 256 (ia (30 * of + j)) = 35 by rw [e256, c3]; rfl), gs_s, gt_t t2, vb_e, eA, I17]
    refine ⟨_, rfl, ⟨?_, fun y q hy => ?_, ?_, ?_⟩, ⟨Ch.rfl.sI (by decide), rfl, rfl, fun x _ hx => ⟨by rw [k_mI_sI (by omega)], by rw [k_mI_sI_e, up1_ne hx], by rw [k_mI_sI (by omega)]⟩⟩⟩
    · rw [k_mI_sI (by omega)]; exact hR.1
    · rw [k_aR_sI]; exact hR.2.1 y q hy
    · rw [k_mI_sI_e, up1_eq]
    · rw [k_mI_sI (by omega)]; exact hR.2.2.2
  rw [if_neg (show ¬ mI p 256 (ia (30 * of + j)) = 35 from S3 3 (by omega) c3)]
  by_cases c4 : s = 4
  · rw [if_pos (show mI p 256 (ia (30 * of + j)) = 36 by rw [e256, c4]; rfl)]; exact PUT (Or.inr (Or.inl c4))
  rw [if_neg (show ¬ mI p 256 (ia (30 * of + j)) = 36 from S3 4 (by omega) c4)]
  by_cases c5 : s = 5
  · rw [if_pos (show mI p 256 (ia (30 * of + j)) = 37 by rw [e256, c5]; rfl)]; exact PUT (Or.inr (Or.inr c5))
  rw [if_neg (show ¬ mI p 256 (ia (30 * of + j)) = 37 from S3 5 (by omega) c5)]
  have n245 : ¬ (D.1 15 (30 * of + j) = 2 ∨ D.1 15 (30 * of + j) = 4 ∨ D.1 15 (30 * of + j) = 5) := by rintro (h | h | h); exact S4 2 (by omega) c2 h; exact S4 4 (by omega) c4 h; exact S4 5 (by omega) c5 h
  have n3 : ¬ D.1 15 (30 * of + j) = 3 := S4 3 (by omega) c3
  by_cases c6 : s = 6
  · have eA : apI D vs of (30 * of + j) S = ((S.1, S.2.1, D.1 17 (30 * of + j)), 0) := by
      unfold apI
      rw [if_neg n245, if_neg n3, if_pos (show D.1 15 (30 * of + j) = 6 by rw [w2, c6]; rfl)]
    have I18 := I.2.2.2.2.2.2.2.2.2.2.2.2.2.2.2.2.2.1 (by rw [w2, c6]; rfl)
    rw [if_pos (show mI p 256 (ia (30 * of + j)) = 38 by rw [e256, c6]; rfl), gs_s, gt_t t2, vb_e, eA, I18]
    refine ⟨_, rfl, ⟨?_, fun y q hy => ?_, ?_, ?_⟩, ⟨Ch.rfl.sI (by decide), rfl, rfl, fun x _ hx => ⟨by rw [k_mI_sI (by omega)], by rw [k_mI_sI (by omega)], by rw [k_mI_sI_e, up1_ne hx]⟩⟩⟩
    · rw [k_mI_sI (by omega)]; exact hR.1
    · rw [k_aR_sI]; exact hR.2.1 y q hy
    · rw [k_mI_sI (by omega)]; exact hR.2.2.1
    · rw [k_mI_sI_e, up1_eq]
  rw [if_neg (show ¬ mI p 256 (ia (30 * of + j)) = 38 from S3 6 (by omega) c6)]
  have n6 : ¬ D.1 15 (30 * of + j) = 6 := S4 6 (by omega) c6
  by_cases c7 : s = 7
  · have eA : apI D vs of (30 * of + j) S = (match fnd D (D.1 16 (30 * of + j)) S.1 0 with
      | some j => ((S.1.eraseIdx j, S.2), 0)
      | none => (S, 2)) := by
      unfold apI
      rw [if_neg n245, if_neg n3, if_neg n6, if_pos (show D.1 15 (30 * of + j) = 7 by rw [w2, c7]; rfl)]
      cases fnd D (D.1 16 (30 * of + j)) S.1 0 <;> rfl
    obtain ⟨p', e1, e2, e3⟩ := P_drop_e L T hk h60 hR hW (by omega) (D.1 16 (30 * of + j))
    rw [if_pos (show mI p 256 (ia (30 * of + j)) = 39 by rw [e256, c7]; rfl), gs_s, gt_t t2, I.2.2.2.2.1, e1, bn_s, eA]
    cases c : fnd D (D.1 16 (30 * of + j)) S.1 0 with
    | some x =>
      rw [c] at e2
      rw [if_neg (show ¬ tI (some x).isSome = 0 from (by decide : ¬ tI true = 0))]
      exact ⟨p', rfl, e2, e3⟩
    | none =>
      rw [c] at e2
      rw [if_pos (show tI (none : Option Nat).isSome = 0 from rfl)]
      exact ⟨p', rfl, e2, e3⟩
  rw [if_neg (show ¬ mI p 256 (ia (30 * of + j)) = 39 from S3 7 (by omega) c7)]
  have n7 : ¬ D.1 15 (30 * of + j) = 7 := S4 7 (by omega) c7
  by_cases c8 : s = 8
  · have e8 : D.1 15 (30 * of + j) = 8 := by rw [w2, c8]; rfl
    have eA : apI D vs of (30 * of + j) S = (match fnd D (D.1 16 (30 * of + j)) S.1 0 with
      | some j' => if isC D S.1 j' = true then (if jmin (logS D of (30 * of + j)) (ansS D of (30 * of + j)) ≤ valS D vs (ix (D.1 21 (30 * of + j))) (ix (D.1 22 (30 * of + j))) ∧ valS D vs (ix (D.1 21 (30 * of + j))) (ix (D.1 22 (30 * of + j))) ≤ jmax (logS D of (30 * of + j)) (ansS D of (30 * of + j)) ∧ logS D of (30 * of + j) ≠ -1 ∧ ansS D of (30 * of + j) ≠ -1 then ((mgA S.1 j' (30 * of + j), S.2), 0) else (S, 3)) else (S, 2)
      | none => (S, 2)) := by
      unfold apI
      rw [if_neg n245, if_neg n3, if_neg n6, if_neg n7, if_pos e8]
      cases fnd D (D.1 16 (30 * of + j)) S.1 0 <;> rfl
    obtain ⟨a, b, hab, hbb, ea, eb, hwf⟩ := w10 (by omega)
    rw [if_pos (show mI p 256 (ia (30 * of + j)) = 40 by rw [e256, c8]; rfl), gs_s, gt_t t2, I.2.2.2.2.1, P_classEntry_e L hk h60 hR hW (by omega), bn_s, eA]
    cases c : fnd D (D.1 16 (30 * of + j)) S.1 0 with
    | none =>
      rw [if_pos (show jo none = -1 from rfl)]
      exact ⟨p, rfl, hR, FK.rfl⟩
    | some x =>
      obtain ⟨-, q0, hq, -⟩ := fnd_some c
      rw [Nat.sub_zero] at hq
      have hx := get_mem hq
      by_cases d : isC D S.1 x = true
      · show ∃ p', (if jo (if isC D S.1 x = true then some x else none) = -1 then _ else _) = some ((if isC D S.1 x = true then _ else _ : RS × Int32).2, p') ∧ RowsP ta ia p' k (if isC D S.1 x = true then _ else _ : RS × Int32).1 ∧ _
        have hArr := I.2.2.2.2.2.2.2.2.2.2.2.2.2.1 (by rw [e8]; simp)
        rw [ea, eb, ix_nj (by omega), ix_nj (by omega)] at hArr
        obtain ⟨p1, r1, r2, r3, r4⟩ := P_result_e (vs := vs) (tk := 0) (o := sa (30 * of + j)) (va := 26) I.2.2.2.2.2.2.2.2.2.1 (by decide) hArr (PC_26 hp).1 (PC_26 hp).2 hv
        have F1 : FK ta k p p1 := ⟨r2.mono (fun _ h => absurd h List.not_mem_nil) (fun _ h => h) (fun _ h => absurd h nil_no), r3, r4, fun x hm _ => ⟨r2.i (by decide) hm, r2.i (by decide) hm, r2.i (by decide) hm⟩⟩
        have l1 : ia (30 * of + j) < mC p := T.lt (by rw [I.2.1]; decide)
        have lk : ta k < mC p := T.lt (by rw [t2]; decide)
        have lk2 : ta k + 2 < mC p := T.lt (by rw [t18]; decide)
        have I19 := I.2.2.2.2.2.2.2.2.2.2.2.2.2.2.2.2.2.2 e8
        simp only [d, if_true]
        rw [if_neg (jo_some (by omega)), gt_t I.2.1, I.2.2.2.2.2.2.2.1, r1, bn_s, sum_eq hwf, gt_t (by rw [r2.t l1]; exact I.2.1), P_within_e, bp_s, r2.i (by decide) l1, r2.i (by decide) l1, ea, eb, ix_nj (by omega), ix_nj (by omega)]
        have hamb : (mI p 266 (ia (30 * of + j)) ≤ valS D vs a b ∧ valS D vs a b ≤ mI p 267 (ia (30 * of + j))) = (jmin (logS D of (30 * of + j)) (ansS D of (30 * of + j)) ≤ valS D vs a b ∧ valS D vs a b ≤ jmax (logS D of (30 * of + j)) (ansS D of (30 * of + j)) ∧ logS D of (30 * of + j) ≠ -1 ∧ ansS D of (30 * of + j) ≠ -1) := by
          by_cases z : logS D of (30 * of + j) ≠ -1 ∧ ansS D of (30 * of + j) ≠ -1
          · rw [(I19.1 z).1, (I19.1 z).2]
            exact propext ⟨fun h => ⟨h.1, h.2, z.1, z.2⟩, fun h => ⟨h.1, h.2.1⟩⟩
          · have z' : logS D of (30 * of + j) = -1 ∨ ansS D of (30 * of + j) = -1 := by
              by_cases y : logS D of (30 * of + j) = -1
              · exact Or.inl y
              · exact Or.inr (Decidable.byContradiction fun y' => z ⟨y, y'⟩)
            rw [(I19.2 z').1, (I19.2 z').2]
            exact propext ⟨fun h => by grind, fun h => absurd ⟨h.2.2.1, h.2.2.2⟩ z⟩
        simp only [hamb]
        by_cases am : jmin (logS D of (30 * of + j)) (ansS D of (30 * of + j)) ≤ valS D vs a b ∧ valS D vs a b ≤ jmax (logS D of (30 * of + j)) (ansS D of (30 * of + j)) ∧ logS D of (30 * of + j) ≠ -1 ∧ ansS D of (30 * of + j) ≠ -1
        · rw [decide_eq_true am, if_neg (by decide), if_pos am, gt_t (by rw [r2.t lk]; exact t2), r2.r (by decide) lk, t14, gs_s, gt_t (by rw [r2.t lk2]; exact t18), r2.n lk2, (t21 h60).2.1, show jo (some x) = nj x from rfl, inb_nj (by omega), gd_t (decide_eq_true (by omega)), vb_e, ix_nj (by omega)]
          have lk1 : ta k + 1 < mC p := T.lt (by rw [t17]; decide)
          have t51 := (L.2.1.2.1 k hk).1
          have ar1 : aR p1 (ta k + 1) = aR p (ta k + 1) := r2.ar (by simp; omega) nil_no lk1
          have ar2 : aR p1 (ta k + 2) = aR p (ta k + 2) := r2.ar (by simp; omega) nil_no lk2
          refine ⟨_, rfl, ⟨?_, fun y q' hy => ?_, ?_, ?_⟩, F1.trans ⟨Ch.rfl.wR (Or.inr (Or.inr rfl)), rfl, rfl, fun _ _ _ => ⟨rfl, rfl, rfl⟩⟩⟩
          · rw [k_mI_wR, r2.i (by decide) lk]
            show _ = nj (mgA S.1 x (30 * of + j)).length
            unfold mgA
            rw [hq]
            show _ = nj (S.1.set x _).length
            rw [List.length_set]; exact hR.1
          · rw [k_aR_wR (show ta k + 1 ≠ ta k + 2 by omega), k_aR_wR_e, ar1, ar2, up1_ap]
            have hy' : (mgA S.1 x (30 * of + j))[y]? = some q' := hy
            unfold mgA at hy'
            rw [hq] at hy'
            have hy2 : (S.1.set x (q0.1, some (30 * of + j)))[y]? = some q' := hy'
            rw [List.getElem?_set] at hy2
            by_cases cy : x = y
            · rw [if_pos cy, if_pos hx] at hy2
              cases hy2
              rw [if_pos cy.symm, ← cy]
              exact ⟨(hR.2.1 x q0 hq).1, rfl⟩
            · rw [if_neg cy] at hy2
              rw [if_neg (fun z => cy z.symm)]
              exact hR.2.1 y q' hy2
          · rw [k_mI_wR, r2.i (by decide) lk]; exact hR.2.2.1
          · rw [k_mI_wR, r2.i (by decide) lk]; exact hR.2.2.2
        · rw [decide_eq_false am, if_pos (show tI false = 0 from rfl), if_neg am]
          have lk1 : ta k + 1 < mC p := T.lt (by rw [t17]; decide)
          have t51 := (L.2.1.2.1 k hk).1
          have ar1 : aR p1 (ta k + 1) = aR p (ta k + 1) := r2.ar (by simp; omega) nil_no lk1
          have ar2 : aR p1 (ta k + 2) = aR p (ta k + 2) := r2.ar (by simp; omega) nil_no lk2
          refine ⟨p1, rfl, ⟨?_, fun y q' hy => ?_, ?_, ?_⟩, F1⟩
          · rw [r2.i (by decide) lk]; exact hR.1
          · rw [ar1, ar2]; exact hR.2.1 y q' hy
          · rw [r2.i (by decide) lk]; exact hR.2.2.1
          · rw [r2.i (by decide) lk]; exact hR.2.2.2
      · show ∃ p', (if jo (if isC D S.1 x = true then some x else none) = -1 then _ else _) = some ((if isC D S.1 x = true then _ else _ : RS × Int32).2, p') ∧ RowsP ta ia p' k (if isC D S.1 x = true then _ else _ : RS × Int32).1 ∧ _
        rw [if_neg d, if_neg d, if_pos (show jo none = -1 from rfl)]
        exact ⟨p, rfl, hR, FK.rfl⟩
  rw [if_neg (show ¬ mI p 256 (ia (30 * of + j)) = 40 from S3 8 (by omega) c8)]
  have eA : apI D vs of (30 * of + j) S = (S, 0) := by
    unfold apI
    rw [if_neg n245, if_neg n3, if_neg n6, if_neg n7, if_neg (show ¬ D.1 15 (30 * of + j) = 8 from S4 8 (by omega) c8)]
  rw [eA]
  exact ⟨p, rfl, hR, FK.rfl⟩
end Pa
