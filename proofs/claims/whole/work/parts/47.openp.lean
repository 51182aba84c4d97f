/-! Layer C: the class's apply and open -/
section Op
variable {fa ta ia sa ca : Nat → Nat} {od : List Nat} {p : Mem} {D : Dt} {nc k of : Nat} {S0 : RS} {vs : Nat → Int32}
theorem P_apply_2_e (W : WItems D nc) (hn60 : nc ≤ 60) (h24 : D.2.1 ≤ 24) (h14 : ∀ k, k < D.2.1 → ∃ m, m ≤ 30 ∧ D.1 14 k = nj m) (hk : k < D.2.1) (hof : of < D.2.1) (h60 : D.1 8 k = 0 ∨ D.1 8 k = 3) (h0 : WRow D S0.1) :
    ∀ (d j fu : Nat) (p : Mem), j + d = ix (D.1 14 of) → d < fu → Lk fa ta ia sa ca od p D → Top p → PL p → (∀ j, j < 12 → aI p 26 j = vs j) → RowsP ta ia p k (stS D vs of S0 j) → (∀ x, x < j → mI p 268 (ia (30 * of + x)) = ftS D vs of S0 x) →
    ∃ p', P_Scene_apply_2 fu (some (ta of)) (some (ta k)) (nj j) p = some ((), p') ∧ RowsP ta ia p' k (stS D vs of S0 (ix (D.1 14 of))) ∧ (∀ x, x < ix (D.1 14 of) → mI p' 268 (ia (30 * of + x)) = ftS D vs of S0 x) ∧ PKeep ta ia D k of p p'
  | 0, j, fu + 1, p, hj, _, L, T, hp, hv, hR, hF => by
    have h30o := h30_of h14 of hof
    obtain ⟨-, t2, -, -, -, -, -, -, t9, t10, t11, t12, -⟩ := L.2.1.2.1 of hof
    have hjn : j = ix (D.1 14 of) := by omega
    refine ⟨p, ?_, by rw [← hjn]; exact hR, fun x hx => hF x (by omega), ⟨Ch.rfl, rfl, rfl, fun _ _ _ => ⟨rfl, rfl, rfl⟩, fun _ _ _ => rfl⟩⟩
    rw [P_Scene_apply_2.eq_2, gs_s, gt_t t2, t9, gs_s, gt_t t10, t11, if_pos (by rw [show Int32.ofNat (ix (D.1 14 of)) = nj (ix (D.1 14 of)) from rfl, nj_le (by omega) (by omega)]; omega)]
  | d + 1, j, fu + 1, p, hj, hf, L, T, hp, hv, hR, hF => by
    have h30o := h30_of h14 of hof
    obtain ⟨-, t2, -, -, -, -, -, -, t9, t10, t11, t12, -⟩ := L.2.1.2.1 of hof
    have hjn : j < ix (D.1 14 of) := by omega
    have I := L.2.2.2.1 of j hof hjn
    have l1 : ia (30 * of + j) < mC p := T.lt (by rw [I.2.1]; decide)
    obtain ⟨p1, e1, e2, e3⟩ := P_fateOf_e L T hp W hn60 h24 hk hof h60 hjn hR (stS_W h0 hof j (by omega)) hv
    have e31 := e3.1
    have e32 := e3.2.1
    have F1 : PKeep ta ia D k of p (sI p1 268 (ia (30 * of + j)) (ftS D vs of S0 j)) := by
      refine ⟨(e31.mono (by simp) (fun _ h => h) (fun _ h => h)).sI (by decide), by rw [k_mC_sI]; exact e32, by rw [k_mS_sI]; exact e3.2.2.1, fun x hm hx => ?_, fun x hm hx => ?_⟩
      · rw [k_mI_sI (by omega), k_mI_sI (by omega), k_mI_sI (by omega)]; exact e3.2.2.2 x hm hx
      · rw [k_mI_sI_e, up1_ne (hx j hjn)]; exact e31.i (by decide) hm
    have L1 := F1.lk L T hk
    obtain ⟨p', f1, f2, f3, f4⟩ := P_apply_2_e W hn60 h24 h14 hk hof h60 h0 d (j + 1) fu (sI p1 268 (ia (30 * of + j)) (ftS D vs of S0 j)) (by omega) (by omega) L1 (T.Ch F1.1) (hp.Ch F1.1 (by decide)) (fun x hx => by
      have t51 := (L.2.1.2.1 k hk).1
      rw [F1.1.ai (by decide) (by omega) (by have := T.1; omega)]; exact hv x hx) (by
      refine ⟨?_, fun y q hy => ?_, ?_, ?_⟩
      · rw [k_mI_sI (by omega)]; exact e2.1
      · rw [k_aR_sI]; exact e2.2.1 y q hy
      · rw [k_mI_sI (by omega)]; exact e2.2.2.1
      · rw [k_mI_sI (by omega)]; exact e2.2.2.2) (fun x hx => by
      rw [k_mI_sI_e, up1_ap]
      by_cases c : ia (30 * of + x) = ia (30 * of + j)
      · have := L.2.2.2.2.2 of x of j hof (by omega) hof hjn c
        rw [if_pos c, show x = j by omega]
      · rw [if_neg c]
        have hxj : x < j := by
          by_cases z : x = j
          · subst z; exact absurd rfl c
          · omega
        have Ix := L.2.2.2.1 of x hof (by omega)
        have lx : ia (30 * of + x) < mC p := T.lt (by rw [Ix.2.1]; decide)
        rw [e31.i (by decide) lx]
        exact hF x hxj)
    refine ⟨p', ?_, f2, f3, F1.trans f4⟩
    rw [P_Scene_apply_2.eq_2, gs_s, gt_t t2, t9, gs_s, gt_t t10, t11, if_neg (by rw [show Int32.ofNat (ix (D.1 14 of)) = nj (ix (D.1 14 of)) from rfl, nj_le (by omega) (by omega)]; omega), gs_s, gt_t t10, t11, inb_nj (by omega), gd_t (decide_eq_true hjn), ix_nj (by omega), t12 j hjn, gs_s, gs_s, gt_t t10, t11, inb_nj (by omega), gd_t (decide_eq_true hjn), t12 j hjn, e1, bn_s, gt_t (by rw [e31.t l1]; exact I.2.1), vb_e, vb_e, nj_add_l]
    exact f1
theorem P_apply_e (L : Lk fa ta ia sa ca od p D) (T : Top p) (hp : PL p) (W : WItems D nc) (hn60 : nc ≤ 60) (h24 : D.2.1 ≤ 24) (h14 : ∀ k, k < D.2.1 → ∃ m, m ≤ 30 ∧ D.1 14 k = nj m) (hk : k < D.2.1) (hof : of < D.2.1) (h60 : D.1 8 k = 0 ∨ D.1 8 k = 3) (h0 : WRow D S0.1) (hv : ∀ j, j < 12 → aI p 26 j = vs j) (hR : RowsP ta ia p k S0) :
    ∃ p', P_Scene_apply (some (ta of)) (some (ta k)) p = some ((), p') ∧ RowsP ta ia p' k (stS D vs of S0 (ix (D.1 14 of))) ∧ (∀ x, x < ix (D.1 14 of) → mI p' 268 (ia (30 * of + x)) = ftS D vs of S0 x) ∧ PKeep ta ia D k of p p' := by
  have h30o := h30_of h14 of hof
  unfold P_Scene_apply
  exact P_apply_2_e W hn60 h24 h14 hk hof h60 h0 (ix (D.1 14 of)) 0 FU p (by omega) (by unfold FU; omega) L T hp hv hR (fun _ h => absurd h (by omega))
end Op
/-- rows of all TEXTS, and fates of all ITEMS -/
abbrev BSt : Type := (Nat → RS) × (Nat → Int32)
def ini : RS := ([], 0, 1)
def isW (D : Dt) (k : Nat) : Bool := decide (D.1 8 k = 0 ∨ D.1 8 k = 3)
noncomputable def bW (D : Dt) (vs : Nat → Int32) (inf : Nat → Bool) : BSt := (fun k => if inf k && isW D k then stS D vs k ini (ix (D.1 14 k)) else ini, fun i => if inf (i / 30) && isW D (i / 30) then ftS D vs (i / 30) ini (i % 30) else 0)
noncomputable def bV (D : Dt) (vs : Nat → Int32) (B : BSt) (t : Nat) : BSt := (up1 B.1 (ix (D.1 13 t)) (stS D vs t (B.1 (ix (D.1 13 t))) (ix (D.1 14 t))), fun i => if i / 30 = t then ftS D vs t (B.1 (ix (D.1 13 t))) (i % 30) else B.2 i)
def isV (D : Dt) (inf : Nat → Bool) (t : Nat) : Bool := inf t && !isW D t && inf (ix (D.1 13 t))
noncomputable def bS (D : Dt) (vs : Nat → Int32) (inf : Nat → Bool) (od : List Nat) : BSt := (od.filter (isV D inf)).foldl (bV D vs) (bW D vs inf)
def dy2 (ta : Nat → Nat) (tc : Nat) : Nat → Prop := fun a => ∃ k, k < tc ∧ (a = ta k + 1 ∨ a = ta k + 2)
section Oq
variable {fa ta ia sa ca : Nat → Nat} {od : List Nat} {p p' : Mem} {D : Dt} {nc k of : Nat} {vs : Nat → Int32} {inf : Nat → Bool}
theorem ini_W : WRow D ini.1 := ⟨fun _ h => absurd h List.not_mem_nil, List.nodup_nil⟩
theorem bW_W (inf : Nat → Bool) (hk : k < D.2.1) : WRow D ((bW D vs inf).1 k).1 := by
  unfold bW
  show WRow D (if (inf k && isW D k) = true then _ else _ : RS).1
  by_cases c : (inf k && isW D k) = true
  · rw [if_pos c]; exact stS_W ini_W hk _ (Nat.le_refl _)
  · rw [if_neg c]; exact ini_W
theorem bV_W {B : BSt} {t : Nat} (h : ∀ k, k < D.2.1 → WRow D (B.1 k).1) (ht : t < D.2.1) (h13 : ix (D.1 13 t) < D.2.1) (hk : k < D.2.1) : WRow D ((bV D vs B t).1 k).1 := by
  unfold bV
  show WRow D (up1 B.1 (ix (D.1 13 t)) _ k).1
  rw [up1_ap]
  by_cases c : k = ix (D.1 13 t)
  · rw [if_pos c]; exact stS_W (h _ h13) ht _ (Nat.le_refl _)
  · rw [if_neg c]; exact h k hk
theorem bVs_W {B : BSt} (h13 : ∀ t, t < D.2.1 → ix (D.1 13 t) < D.2.1) : ∀ (l : List Nat) (B : BSt), (∀ t, t ∈ l → t < D.2.1) → (∀ k, k < D.2.1 → WRow D (B.1 k).1) → ∀ k, k < D.2.1 → WRow D ((l.foldl (bV D vs) B).1 k).1
  | [], _, _, h, k, hk => h k hk
  | t :: l, B, hl, h, k, hk => by
    rw [List.foldl_cons]
    exact bVs_W (B := B) h13 l (bV D vs B t) (fun x hx => hl x (List.mem_cons_of_mem _ hx)) (fun y hy => bV_W h (hl t (by simp)) (h13 t (hl t (by simp))) hy) k hk
/-- rows of another award stay -/
theorem RowsP.keep {k' : Nat} {S : RS} (h : RowsP ta ia p k' S) (c : PKeep ta ia D k of p p') (L : Lk fa ta ia sa ca od p D) (T : Top p) (hk : k < D.2.1) (hk' : k' < D.2.1) (hne : k' ≠ k) : RowsP ta ia p' k' S := by
  obtain ⟨u1, u2, -, -, -, -, -, -, -, -, -, -, -, -, -, -, u17, u18, -⟩ := L.2.1.2.1 k' hk'
  obtain ⟨v1, v2, -, -, -, -, -, -, -, -, -, -, -, -, -, -, v17, v18, -⟩ := L.2.1.2.1 k hk
  have l0 : ta k' < mC p := T.lt (by rw [u2]; decide)
  have l1 : ta k' + 1 < mC p := T.lt (by rw [u17]; decide)
  have l2 : ta k' + 2 < mC p := T.lt (by rw [u18]; decide)
  have n0 : ta k' ≠ ta k := fun e => hne (ta_inj L hk' hk e)
  have n1 : ta k' ≠ ta k + 1 := fun e => by rw [e, v17] at u2; exact absurd u2 (by decide)
  have n2 : ta k ≠ ta k' + 1 := fun e => by rw [e, u17] at v2; exact absurd v2 (by decide)
  have ar1 : aR p' (ta k' + 1) = aR p (ta k' + 1) := c.1.ar (by simp; omega) (by omega) l1
  have ar2 : aR p' (ta k' + 2) = aR p (ta k' + 2) := c.1.ar (by simp; omega) (by omega) l2
  obtain ⟨x1, x2, x3⟩ := c.2.2.2.1 (ta k') l0 n0
  refine ⟨by rw [x1]; exact h.1, fun y q hy => by rw [ar1, ar2]; exact h.2.1 y q hy, by rw [x2]; exact h.2.2.1, by rw [x3]; exact h.2.2.2⟩
theorem fate_keep {k' x : Nat} (c : PKeep ta ia D k of p p') (L : Lk fa ta ia sa ca od p D) (T : Top p) (h14 : ∀ k, k < D.2.1 → ∃ m, m ≤ 30 ∧ D.1 14 k = nj m) (hof : of < D.2.1) (hk' : k' < D.2.1) (hx : x < ix (D.1 14 k')) (hne : k' ≠ of) : mI p' 268 (ia (30 * k' + x)) = mI p 268 (ia (30 * k' + x)) := by
  have I := L.2.2.2.1 k' x hk' hx
  have l1 : ia (30 * k' + x) < mC p := T.lt (by rw [I.2.1]; decide)
  refine c.2.2.2.2 _ l1 fun j hj e => ?_
  have := L.2.2.2.2.2 k' x of j hk' hx hof hj e
  have h1 := h30_of h14 k' hk'
  have h2 := h30_of h14 of hof
  omega
theorem PKeep.c2 (c : PKeep ta ia D k of p p') (hk : k < D.2.1) : Ch [268, 1292, 1293, 1294] [4] (dy2 ta D.2.1) p p' := c.1.mono (fun _ h => h) (fun _ h => h) (fun a ha => ⟨k, hk, ha⟩)
theorem P_changes_e (L : Lk fa ta ia sa ca od p D) (W : WText D nc) (hk : k < D.2.1) : P_Text_changesAward (ta k) p = some (tI (!isW D k), p) := by
  obtain ⟨-, -, t3, -, -, -, -, t8, -⟩ := L.2.1.2.1 k hk
  unfold P_Text_changesAward isW
  rw [t8, t3]
  by_cases c0 : D.1 8 k = 0
  · rw [if_pos c0, if_pos rfl, decide_eq_true (Or.inl c0)]; rfl
  · rw [if_neg c0, if_neg (by simp)]
    by_cases c3 : D.1 8 k = 3
    · rw [if_pos c3, decide_eq_true (Or.inr c3)]; rfl
    · rw [if_neg c3, decide_eq_false (by rintro (h | h); exact c0 h; exact c3 h)]; rfl
theorem h14_of (W : WText D nc) : ∀ k, k < D.2.1 → ∃ m, m ≤ 30 ∧ D.1 14 k = nj m := fun k hk => (W.2.2.1 k hk).2.2.2.2.2.2.2
/-- TEXTS that are no awards and no agrees have no rows -/
def NWk (ta : Nat → Nat) (D : Dt) (p p' : Mem) : Prop := ∀ k, k < D.2.1 → isW D k = false → mI p' 1292 (ta k) = mI p 1292 (ta k)
theorem PKeep.nw {q : Nat} (c : PKeep ta ia D q of p p') (L : Lk fa ta ia sa ca od p D) (T : Top p) (hq : q < D.2.1) (hw : isW D q = true) : NWk ta D p p' := fun k hk hn => by
  have lk : ta k < mC p := T.lt (by rw [(L.2.1.2.1 k hk).2.1]; decide)
  refine (c.2.2.2.1 (ta k) lk fun e => ?_).1
  have := ta_inj L hk hq e
  subst this
  rw [hw] at hn
  cases hn
/-- the second pass of the class -/
theorem P_open_166_e (W : WText D nc) (Wi : WItems D nc) (hn60 : nc ≤ 60) (hod : ∀ k, k ∈ od → k < D.2.1) : ∀ (e i fu : Nat) (p : Mem), i + e = D.2.1 → e < fu → Lk fa ta ia sa ca od p D → Top p → PL p → (∀ j, j < 12 → aI p 26 j = vs j) → (∀ k, k < D.2.1 → mI p 1287 (ta k) = tI (inf k)) →
    (∀ k, k < D.2.1 → inf k = true → isW D k = true → RowsP ta ia p k ((((od.take i).filter (isV D inf)).foldl (bV D vs) (bW D vs inf)).1 k)) →
    (∀ k j, k < D.2.1 → j < ix (D.1 14 k) → inf k = true → (isW D k = true ∨ k ∈ (od.take i).filter (isV D inf)) → mI p 268 (ia (30 * k + j)) = (((od.take i).filter (isV D inf)).foldl (bV D vs) (bW D vs inf)).2 (30 * k + j)) →
    ∃ p', P_Scene_open_166 fu (nj i) p = some ((), p') ∧ (∀ k, k < D.2.1 → inf k = true → isW D k = true → RowsP ta ia p' k ((bS D vs inf od).1 k)) ∧
      (∀ k j, k < D.2.1 → j < ix (D.1 14 k) → inf k = true → (isW D k = true ∨ isV D inf k = true) → mI p' 268 (ia (30 * k + j)) = (bS D vs inf od).2 (30 * k + j)) ∧ Ch [268, 1292, 1293, 1294] [4] (dy2 ta D.2.1) p p' ∧ mC p' = mC p ∧ mS p' = mS p ∧ NWk ta D p p'
  | 0, i, fu + 1, p, hi, _, L, T, hp, hv, hI, hR, hF => by
    have h24 := W.1
    have ht : od.take i = od := List.take_of_length_le (by rw [L.2.2.1.1]; omega)
    rw [ht] at hR hF
    refine ⟨p, ?_, hR, fun k j hk hj hin h => hF k j hk hj hin ?_, Ch.rfl, rfl, rfl, fun _ _ _ => rfl⟩
    · rw [P_Scene_open_166.eq_2, L.2.1.1, if_pos (by rw [nj_le (by omega) (by omega)]; omega)]
    · rcases h with h | h
      · exact Or.inl h
      · exact Or.inr (List.mem_filter.mpr ⟨(L.2.2.1.2.2.1 k).mpr hk, h⟩)
  | e + 1, i, fu + 1, p, hi, hf, L, T, hp, hv, hI, hR, hF => by
    have h24 := W.1
    obtain ⟨t, et, ht, ea⟩ := od_get L (show i < D.2.1 by omega)
    have A := L.2.1.2.1 t ht
    have h14 := h14_of W
    have htk : od.take (i + 1) = od.take i ++ [t] := by
      rw [List.take_add_one, et]
      rfl
    have K : ∀ p1, Ch [268, 1292, 1293, 1294] [4] (dy2 ta D.2.1) p p1 → mC p1 = mC p → mS p1 = mS p → NWk ta D p p1 → Lk fa ta ia sa ca od p1 D → Top p1 → PL p1 → (∀ j, j < 12 → aI p1 26 j = vs j) → (∀ k, k < D.2.1 → mI p1 1287 (ta k) = tI (inf k)) →
        (∀ k, k < D.2.1 → inf k = true → isW D k = true → RowsP ta ia p1 k ((((od.take (i + 1)).filter (isV D inf)).foldl (bV D vs) (bW D vs inf)).1 k)) →
        (∀ k j, k < D.2.1 → j < ix (D.1 14 k) → inf k = true → (isW D k = true ∨ k ∈ (od.take (i + 1)).filter (isV D inf)) → mI p1 268 (ia (30 * k + j)) = (((od.take (i + 1)).filter (isV D inf)).foldl (bV D vs) (bW D vs inf)).2 (30 * k + j)) →
        ∃ p', P_Scene_open_228 (fun z0 z1 => P_Scene_open_166 fu z0 z1) (nj i) p1 = some ((), p') ∧ (∀ k, k < D.2.1 → inf k = true → isW D k = true → RowsP ta ia p' k ((bS D vs inf od).1 k)) ∧
          (∀ k j, k < D.2.1 → j < ix (D.1 14 k) → inf k = true → (isW D k = true ∨ isV D inf k = true) → mI p' 268 (ia (30 * k + j)) = (bS D vs inf od).2 (30 * k + j)) ∧ Ch [268, 1292, 1293, 1294] [4] (dy2 ta D.2.1) p p' ∧ mC p' = mC p ∧ mS p' = mS p ∧ NWk ta D p p' := by
      intro p1 c1 c2 c3 c4 L1 T1 hp1 hv1 hI1 hR1 hF1
      obtain ⟨p', e1, e2, e3, e4, e5, e6, e7⟩ := P_open_166_e W Wi hn60 hod e (i + 1) fu p1 (by omega) (by omega) L1 T1 hp1 hv1 hI1 hR1 hF1
      refine ⟨p', ?_, e2, e3, c1.trans e4, e5.trans c2, e6.trans c3, fun k hk hn => (e7 k hk hn).trans (c4 k hk hn)⟩
      unfold P_Scene_open_228
      rw [vb_e, nj_add_l]
      exact e1
    have KN : isV D inf t = false → ∃ p', P_Scene_open_228 (fun z0 z1 => P_Scene_open_166 fu z0 z1) (nj i) p = some ((), p') ∧ (∀ k, k < D.2.1 → inf k = true → isW D k = true → RowsP ta ia p' k ((bS D vs inf od).1 k)) ∧
          (∀ k j, k < D.2.1 → j < ix (D.1 14 k) → inf k = true → (isW D k = true ∨ isV D inf k = true) → mI p' 268 (ia (30 * k + j)) = (bS D vs inf od).2 (30 * k + j)) ∧ Ch [268, 1292, 1293, 1294] [4] (dy2 ta D.2.1) p p' ∧ mC p' = mC p ∧ mS p' = mS p ∧ NWk ta D p p' := by
      intro hn
      have hfl : (od.take (i + 1)).filter (isV D inf) = (od.take i).filter (isV D inf) := by
        rw [htk, List.filter_append]
        simp [hn]
      refine K p Ch.rfl rfl rfl (fun _ _ _ => rfl) L T hp hv hI ?_ ?_
      · rw [hfl]; exact hR
      · rw [hfl]; exact hF
    rw [P_Scene_open_166.eq_2, L.2.1.1, if_neg (by rw [nj_le (by omega) (by omega)]; omega), inb_nj (by omega), gd_t (decide_eq_true (by omega)), ix_nj (by omega), ea, gs_s, gt_t A.2.1, hI t ht]
    cases hin : inf t with
    | false =>
      rw [if_pos (show tI false = 0 from rfl)]
      exact KN (by unfold isV; rw [hin]; rfl)
    | true =>
      rw [if_neg (by decide), P_changes_e L W ht, bn_s]
      cases hw : isW D t with
      | true =>
        rw [if_pos (show tI (!true) = 0 from rfl)]
        exact KN (by unfold isV; rw [hin, hw]; rfl)
      | false =>
        rw [if_neg (by decide), gt_t A.2.1]
        obtain ⟨q, z1, z2, z3, z4, z5, z6⟩ := (W.2.2.1 t ht).2.2.2.2.2.2.1
        have hq : q < D.2.1 := by omega
        have iq : ix (D.1 13 t) = q := by rw [z2, ix_nj (by omega)]
        have n0 : ¬ D.1 8 t = 0 := by
          unfold isW at hw
          have := of_decide_eq_false hw
          exact fun h => this (Or.inl h)
        have B := L.2.1.2.1 q hq
        have e85 : mR p 1285 (ta t) = some (ta q) := by rw [A.2.2.2.2.2.2.2.1, if_neg n0, iq]
        rw [e85, gs_s, gt_t B.2.1, hI q hq]
        cases hinq : inf q with
        | false =>
          rw [if_pos (show tI false = 0 from rfl)]
          exact KN (by unfold isV; rw [hin, hw, iq, hinq]; rfl)
        | true =>
          have hV : isV D inf t = true := by unfold isV; rw [hin, hw, iq, hinq]; rfl
          have hwq : isW D q = true := decide_eq_true (Or.inl z3)
          have hfl : (od.take (i + 1)).filter (isV D inf) = (od.take i).filter (isV D inf) ++ [t] := by
            rw [htk, List.filter_append]
            simp [hV]
          have hWr : ∀ k, k < D.2.1 → WRow D ((((od.take i).filter (isV D inf)).foldl (bV D vs) (bW D vs inf)).1 k).1 := bVs_W (B := bW D vs inf) (fun x hx => by
            obtain ⟨q', y1, y2, -⟩ := (W.2.2.1 x hx).2.2.2.2.2.2.1
            rw [y2, ix_nj (by omega)]
            omega) _ _ (fun x hx => hod x (List.mem_of_mem_take (List.mem_filter.mp hx).1)) (fun k hk => bW_W inf hk)
          obtain ⟨p1, a1, a2, a3, a4⟩ := P_apply_e (vs := vs) L T hp Wi hn60 h24 h14 hq ht (Or.inl z3) (hWr q hq) hv (hR q hq hinq hwq)
          have t51 := (L.2.1.2.1 q hq).1
          rw [if_neg (by decide), a1, bn_s]
          refine K p1 (a4.c2 hq) a4.2.1 a4.2.2.1 (a4.nw L T hq hwq) (a4.lk L T hq) (T.Ch a4.1) (hp.Ch a4.1 (by decide)) (fun j hj => by rw [a4.1.ai (by decide) (by omega) (by have := T.1; omega)]; exact hv j hj) (fun k hk => by
            have lk : ta k < mC p := T.lt (by rw [(L.2.1.2.1 k hk).2.1]; decide)
            rw [a4.1.i (by decide) lk]; exact hI k hk) ?_ ?_
          · intro k hk hin' hw'
            rw [hfl, List.foldl_append, List.foldl_cons, List.foldl_nil]
            show RowsP ta ia p1 k (up1 _ (ix (D.1 13 t)) _ k)
            rw [iq, up1_ap]
            by_cases c : k = q
            · rw [if_pos c, c]; exact a2
            · rw [if_neg c]; exact (hR k hk hin' hw').keep a4 L T hq hk c
          · intro k j hk hj hin' h
            have h30 := h30_of h14 k hk
            rw [hfl, List.foldl_append, List.foldl_cons, List.foldl_nil]
            show _ = if (30 * k + j) / 30 = t then ftS D vs t _ ((30 * k + j) % 30) else _
            rw [show (30 * k + j) / 30 = k by omega, show (30 * k + j) % 30 = j by omega]
            by_cases c : k = t
            · subst c
              rw [if_pos rfl, iq]; exact a3 j hj
            · rw [if_neg c, fate_keep a4 L T h14 ht hk hj c]
              refine hF k j hk hj hin' ?_
              rcases h with h | h
              · exact Or.inl h
              · rw [hfl, List.mem_append] at h
                rcases h with h | h
                · exact Or.inr h
                · rw [List.mem_singleton] at h; exact absurd h c
end Oq
