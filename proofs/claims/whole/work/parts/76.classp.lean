/-! Layer C: the class's classes of a DAY -/
def moF (ch : Int32) (tl : Nat → Nat) (o : Option Nat) : Int32 := match o with
  | none => 0
  | some b => if ch = 1 then nj (tl b) else 1
def grF (mg : Nat → Int32) (o : Option Nat) : Int32 := match o with
  | none => 0
  | some b => mg b
def upF (ch : Int32) (tl : Nat → Nat) (mg : Nat → Int32) (j : Nat) (o : Option Nat) : Bool := match o with
  | none => true
  | some b => decide ((ch = 1 ∧ tl b < tl j) ∨ ((ch = 1 → tl j = tl b) ∧ mg b < mg j))
section Cp
variable {fa ta ia sa ca : Nat → Nat} {od : List Nat} {p : Mem} {D : Dt} {nc : Nat} {X : Dy} {sup : Sup} {w : Nat} {g : Nat → Option Nat}
theorem chF_up {ch : Int32} {tl : Nat → Nat} {mg : Nat → Int32} {j : Nat} (h : tl j ≠ 0) : chF ch tl mg (j + 1) = if upF ch tl mg j (chF ch tl mg j) = true then some j else chF ch tl mg j := by
  have hs : chF ch tl mg (j + 1) = if tl j = 0 then chF ch tl mg j else match chF ch tl mg j with
    | none => some j
    | some b => if (ch = 1 ∧ tl b < tl j) ∨ ((ch = 1 → tl j = tl b) ∧ mg b < mg j) then some j else some b := rfl
  rw [hs, if_neg h]
  unfold upF
  cases chF ch tl mg j with
  | none => rfl
  | some b =>
    by_cases q : (ch = 1 ∧ tl b < tl j) ∨ ((ch = 1 → tl j = tl b) ∧ mg b < mg j)
    · simp only [q, if_true, decide_true]
    · simp only [q, if_false, decide_false, Bool.false_eq_true]
theorem up_if {β : Type} {ch : Int32} {tl : Nat → Nat} {mg : Nat → Int32} {j : Nat} {o : Option Nat} {A B : β} (h : tl j ≠ 0) (h48 : ∀ x, tl x ≤ 48) : (if moF ch tl o < (if ch = 1 then nj (tl j) else 1) then A else if (if ch = 1 then nj (tl j) else 1) = moF ch tl o then (if mg j ≤ grF mg o then B else A) else B) = if upF ch tl mg j o = true then A else B := by
  have hj := h48 j
  cases o with
  | none =>
    show (if (0 : Int32) < _ then A else _) = A
    rw [if_pos]
    by_cases c : ch = 1
    · rw [if_pos c, nj_l_lt (by omega) (by omega)]
      exact Nat.pos_of_ne_zero h
    · rw [if_neg c]; decide
  | some b =>
    have hb := h48 b
    unfold upF moF grF
    simp only [decide_eq_true_eq]
    by_cases c : ch = 1
    · simp only [c, if_true, true_and, forall_const]
      by_cases c1 : tl b < tl j
      · have c1' : nj (tl b) < nj (tl j) := by rw [nj_lt (by omega) (by omega)]; exact c1
        rw [if_pos c1', if_pos (Or.inl c1)]
      · have c1' : ¬ nj (tl b) < nj (tl j) := by rw [nj_lt (by omega) (by omega)]; exact c1
        rw [if_neg c1']
        by_cases c2 : tl j = tl b
        · rw [if_pos (by rw [c2])]
          by_cases c3 : mg j ≤ mg b
          · rw [if_pos c3, if_neg (fun z => z.elim c1 (fun y => Int32.not_lt.mpr c3 y.2))]
          · rw [if_neg c3, if_pos (Or.inr ⟨c2, Int32.not_le.mp c3⟩)]
        · rw [if_neg (fun z => c2 ((nj_inj (by omega) (by omega)).mp z)), if_neg (fun z => z.elim c1 (fun y => c2 y.1))]
    · simp only [if_neg c, c, false_and, false_or, false_implies, true_and, Int32.lt_irrefl, if_false, if_true]
      by_cases c3 : mg j ≤ mg b
      · have : ¬ mg b < mg j := Int32.not_lt.mpr c3
        simp [c3, this]
      · have : mg b < mg j := Int32.not_le.mp c3
        simp [c3, this]
theorem tl48 {k : Nat} : ∀ j, tlH D X g k j ≤ 48 := fun _ => cO_le 48
theorem wkC_mono (tl : Nat → Nat) : ∀ {i j : Nat}, i ≤ j → wkC tl i ≤ wkC tl j := fun {i j} h => by
  induction h with
  | refl => exact Nat.le_refl _
  | step _ ih => exact Nat.le_trans ih (Nat.le_add_right _ _)
theorem pd_mg {p' : Mem} (h : PD fa ta ia sa ca od D X sup w p) (c : Ch [1157] [4] (dy3 ta D.2.1) p p') (hS : Stm ta D (w + 1) p') : PD fa ta ia sa ca od D X sup (w + 1) p' :=
  h.Ch (c.mono (fun _ h => h) (fun _ h => h) (fun a ⟨k, hk, e⟩ => ⟨k, hk, Or.inl e⟩)) (by decide) (by decide) (by decide) hS
theorem P_chosen_67_e (W : WText D nc) (Wi : WItems D nc) (hn60 : nc ≤ 60) (hd : xd X < 140) {k : Nat} (hk : k < D.2.1) (hi : inH D X k = true) (hwk : isW D k = true) (hw : w + wkC (tlH D X g k) (rowQ D X k).length < 2147483647) : ∀ (e j fu : Nat) (p : Mem), j + e = (rowQ D X k).length → e < fu → PD fa ta ia sa ca od D X sup (w + wkC (tlH D X g k) j) p → (∀ j, j < 60 → aI p (ta k + 4) j = nj (tlH D X g k j)) →
    ∃ p', P_Reckoning_chosenClass_67 fu (some (ta k)) (some (ta k + 4)) (jo (chF (chQ D X k) (tlH D X g k) (mgH D X sup k) j)) (moF (chQ D X k) (tlH D X g k) (chF (chQ D X k) (tlH D X g k) (mgH D X sup k) j)) (grF (mgH D X sup k) (chF (chQ D X k) (tlH D X g k) (mgH D X sup k) j)) (nj j) p = some (jo (chF (chQ D X k) (tlH D X g k) (mgH D X sup k) (rowQ D X k).length), p') ∧ PD fa ta ia sa ca od D X sup (w + wkC (tlH D X g k) (rowQ D X k).length) p' ∧ Ch [1157] [4] (dy3 ta D.2.1) p p' ∧ mC p' = mC p ∧ mS p' = mS p
  | 0, j, fu + 1, p, he, _, P, ht => by
    have hlen := (rowQ_W (X := X) W hd hk).len Wi hn60
    obtain ⟨-, t2, -⟩ := P.1.2.1.2.1 k hk
    have hR := P.2.2.2.2.1.2.1 k hk hi hwk
    have e92 : mI p 1292 (ta k) = nj (rowQ D X k).length := hR.1
    have ej : j = (rowQ D X k).length := by omega
    refine ⟨p, ?_, by rw [← ej]; exact P, Ch.rfl, rfl, rfl⟩
    rw [P_Reckoning_chosenClass_67.eq_2, gs_s, gt_t t2, e92, if_pos (by rw [nj_le (by omega) (by omega)]; omega), ej]
  | e + 1, j, fu + 1, p, he, hf, P, ht => by
    have hlen := (rowQ_W (X := X) W hd hk).len Wi hn60
    obtain ⟨L, T, hp, S, M, N⟩ := id P
    obtain ⟨-, t2, -, -, -, -, -, -, -, -, -, -, -, -, -, -, -, -, -, t20, t21⟩ := L.2.1.2.1 k hk
    have hR := M.2.1 k hk hi hwk
    have h60 : D.1 8 k = 0 ∨ D.1 8 k = 3 := of_decide_eq_true hwk
    have e92 : mI p 1292 (ta k) = nj (rowQ D X k).length := hR.1
    have e93 : mI p 1293 (ta k) = chQ D X k + 51 := hR.2.2.1
    have h48 := tl48 (D := D) (X := X) (g := g) (k := k)
    have hj := h48 j
    have hws : wkC (tlH D X g k) (j + 1) = wkC (tlH D X g k) j + if tlH D X g k j = 0 then 0 else 1 := rfl
    rw [P_Reckoning_chosenClass_67.eq_2, gs_s, gt_t t2, e92, if_neg (by rw [nj_le (by omega) (by omega)]; omega), gs_s, gt_t t20, (t21 h60).2.2.2, inb_nj (by omega), gd_t (decide_eq_true (by omega)), ix_nj (by omega), ht j (by omega)]
    by_cases q : tlH D X g k j = 0
    · have hs : chF (chQ D X k) (tlH D X g k) (mgH D X sup k) (j + 1) = chF (chQ D X k) (tlH D X g k) (mgH D X sup k) j := by
        show (if tlH D X g k j = 0 then _ else _) = _
        rw [if_pos q]
      rw [if_pos (by rw [q]; decide)]
      unfold P_Reckoning_chosenClass_149
      simp only [vb_e, nj_add_l]
      rw [if_pos q] at hws
      have ih := P_chosen_67_e W Wi hn60 hd hk hi hwk hw e (j + 1) fu p (by omega) (by omega) (by rw [hws]; exact P) ht
      rw [hs] at ih
      exact ih
    · have hup := chF_up (ch := chQ D X k) (mg := mgH D X sup k) q
      rw [if_neg (by rw [nj_le_l (by omega) (by omega)]; exact fun z => q (Nat.le_zero.mp z))]
      obtain ⟨z, hz, hz2⟩ := tl_row q
      have hm := wkC_mono (tlH D X g k) (show j + 1 ≤ (rowQ D X k).length by omega)
      rw [if_neg q] at hws
      obtain ⟨p1, a1, a2, a3, a4, a5⟩ := P_marginOf_e W Wi hn60 (fun k hk => bQ_W W hd hk) L T hp S (by omega) M hk hi hwk hz hz2
      have a1' : P_Scene_marginOf (some (ta k)) (nj j) p = some (mgH D X sup k j, p1) := a1
      have P1 := pd_mg P a3 a2
      have hsel : ∀ {β : Type} (F : Int32 → Option β), (if mI p 1293 (ta k) = 52 then gd (decide (j < 60)) (F (nj (tlH D X g k j))) else F 1) = F (if chQ D X k = 1 then nj (tlH D X g k j) else 1) := fun F => by
        rw [e93]
        by_cases c : chQ D X k = 1
        · rw [if_pos (by rw [c]; rfl), if_pos c, gd_t (decide_eq_true (by omega))]
        · rw [if_neg (fun z => c (by grind)), if_neg c]
      have hch : ∃ p', P_Reckoning_chosenClass_102 (fun z0 z1 z2 z3 z4 z5 z6 => P_Reckoning_chosenClass_67 fu z0 z1 z2 z3 z4 z5 z6) (some (ta k)) (some (ta k + 4)) (jo (chF (chQ D X k) (tlH D X g k) (mgH D X sup k) j)) (moF (chQ D X k) (tlH D X g k) (chF (chQ D X k) (tlH D X g k) (mgH D X sup k) j)) (grF (mgH D X sup k) (chF (chQ D X k) (tlH D X g k) (mgH D X sup k) j)) (nj j) (if chQ D X k = 1 then nj (tlH D X g k j) else 1) p = some (jo (chF (chQ D X k) (tlH D X g k) (mgH D X sup k) (rowQ D X k).length), p') ∧ PD fa ta ia sa ca od D X sup (w + wkC (tlH D X g k) (rowQ D X k).length) p' ∧ Ch [1157] [4] (dy3 ta D.2.1) p p' ∧ mC p' = mC p ∧ mS p' = mS p := by
        obtain ⟨p', b1, b2, b3, b4, b5⟩ := P_chosen_67_e W Wi hn60 hd hk hi hwk hw e (j + 1) fu p1 (by omega) (by omega) (by rw [hws]; exact P1) (fun i hi => by
          have l4 : ta k + 4 < mC p := T.lt (by rw [t20]; decide)
          have t1 := (L.2.1.2.1 k hk).1
          rw [a3.ai (by simp; omega) (fun ⟨l, hl, e⟩ => t43 L.2.1 hl hk e.symm) l4]
          exact ht i hi)
        refine ⟨p', ?_, b2, a3.trans b3, by omega, by omega⟩
        unfold P_Reckoning_chosenClass_102 P_Reckoning_chosenClass_137 P_Reckoning_chosenClass_149
        rw [a1', bn_s]
        simp only [vb_e, nj_add_l]
        rw [up_if q h48]
        rw [hup] at b1
        by_cases u : upF (chQ D X k) (tlH D X g k) (mgH D X sup k) j (chF (chQ D X k) (tlH D X g k) (mgH D X sup k) j) = true
        · rw [if_pos u] at b1
          rw [if_pos u]
          exact b1
        · rw [if_neg u] at b1
          rw [if_neg u]
          exact b1
      have := hsel (fun s0 => P_Reckoning_chosenClass_102 (fun z0 z1 z2 z3 z4 z5 z6 => P_Reckoning_chosenClass_67 fu z0 z1 z2 z3 z4 z5 z6) (some (ta k)) (some (ta k + 4)) (jo (chF (chQ D X k) (tlH D X g k) (mgH D X sup k) j)) (moF (chQ D X k) (tlH D X g k) (chF (chQ D X k) (tlH D X g k) (mgH D X sup k) j)) (grF (mgH D X sup k) (chF (chQ D X k) (tlH D X g k) (mgH D X sup k) j)) (nj j) s0 p)
      rw [this]
      exact hch
/-- the choice, of a whole TEXT in force; of another nothing is asked -/
theorem P_chosenClass_e (W : WText D nc) (Wi : WItems D nc) (hn60 : nc ≤ 60) (hd : xd X < 140) (hG : GW D X g) {k bA eA : Nat} (hk : k < D.2.1) (hi : inH D X k = true) (hb : bA < 50 ∧ eA < 50) (hT : ∀ p, PL p → mT p bA = 37 ∧ mN p bA = 48 ∧ mT p eA = 32 ∧ mN p eA = 48) (P : PD fa ta ia sa ca od D X sup w p) (hw : w + cO g k 48 < 2147483647) (hA : ∀ x, x < 48 → aR p bA x = (g x).map ta) (hE : ∀ x, x < 48 → g x = some k → aI p eA x = jo (c0H D X g x)) :
    ∃ v p' w', P_Reckoning_chosenClass (some (ta k)) (some bA) (some eA) p = some (v, p') ∧ (isW D k = true → v = jo (chF (chQ D X k) (tlH D X g k) (mgH D X sup k) (rowQ D X k).length)) ∧ PD fa ta ia sa ca od D X sup w' p' ∧ w' ≤ w + cO g k 48 ∧ Ch [1157] [4] (dy4 ta D.2.1) p p' ∧ mC p' = mC p ∧ mS p' = mS p := by
  obtain ⟨L, T, hp, S, M, N⟩ := id P
  have T1 := T.1
  obtain ⟨t1, t2, -, -, -, -, -, -, -, -, -, -, -, -, -, t16, -, -, -, t20, t21⟩ := L.2.1.2.1 k hk
  have h4 := L.2.1.2.2.2 k hk
  have c1 : Ch [] [] (fun a => ∃ k, k < D.2.1 ∧ a = ta k + 4) p (fil p (ta k + 4) 0 (mN p (ta k + 4)) 0) := by
    refine ⟨⟨Nat.le_refl _, fun _ _ => rfl⟩, fun _ _ => ⟨rfl, rfl⟩, fun _ _ _ _ => ⟨rfl, rfl, rfl⟩, fun a _ hn _ => ⟨k_aI_fil (fun e => hn ⟨k, hk, e⟩), rfl, rfl⟩⟩
  have P1 := P.Ch (c1.mono (fun _ h => h) (fun _ h => h) (fun a ⟨k, hk, e⟩ => ⟨k, hk, Or.inr e⟩)) (by decide) (by decide) (by decide) (S.Ch L.2.1 T c1 List.not_mem_nil (fun _ _ => List.not_mem_nil))
  obtain ⟨p2, b1, b2, b3, b4, b5, b6⟩ := P_chosen_15_e W Wi hn60 hd hG hk hb hT 48 0 FU (fil p (ta k + 4) 0 (mN p (ta k + 4)) 0) (by omega) (by unfold FU; omega) P1 (fun x hx => by rw [k_aR_fil]; exact hA x hx) (fun x hx e => by rw [k_aI_fil (by omega)]; exact hE x hx e) (fun z j hj => by
    rw [k_aI_fil_e]
    show (if 0 ≤ j ∧ j < mN p (ta k + 4) then (0 : Int32) else _) = nj 0
    rw [if_pos ⟨by omega, by rw [(t21 (of_decide_eq_true z)).2.2.2]; exact hj⟩]
    rfl)
  have hC : mC p2 = mC p := by rw [b5, k_mC_fil]
  have hS : mS p2 = mS p := by rw [b6, k_mS_fil]
  have c2 : Ch [1157] [4] (dy4 ta D.2.1) p p2 := (c1.trans b4).mono (by simp) (by simp) (fun a ⟨k, hk, e⟩ => ⟨k, hk, Or.inr e⟩)
  have h0 : P_Reckoning_chosenClass (some (ta k)) (some bA) (some eA) p = P_Reckoning_chosenClass_55 (some (ta k)) (some (ta k + 4)) p2 := by
    unfold P_Reckoning_chosenClass
    rw [gs_s, gt_t t2, t16, J_fill_e (by omega) t20 rfl, bn_s]
    exact b1
  cases hwk : isW D k with
  | true =>
    have hle := walks_le (D := D) (X := X) (g := g) (k := k) (n := (rowQ D X k).length)
    obtain ⟨p3, d1, d2, d3, d4, d5⟩ := P_chosen_67_e (g := g) (w := w) W Wi hn60 hd hk hi hwk (by omega) (rowQ D X k).length 0 FU p2 (by omega) (by have := (rowQ_W (X := X) W hd hk).len Wi hn60; unfold FU; omega) b3 (b2 hwk)
    refine ⟨_, p3, w + wkC (tlH D X g k) (rowQ D X k).length, h0.trans d1, fun _ => rfl, d2, by omega, c2.trans (d3.mono (fun _ h => h) (fun _ h => h) (fun a ⟨k, hk, e⟩ => ⟨k, hk, Or.inl e⟩)), by omega, by omega⟩
  | false =>
    refine ⟨-1, p2, w, ?_, fun z => (by cases z), b3, by omega, c2, hC, hS⟩
    rw [h0]
    have t2' := (b3.1.2.1.2.1 k hk).2.1
    unfold P_Reckoning_chosenClass_55
    show P_Reckoning_chosenClass_67 (FU - 1 + 1) _ _ _ _ _ _ _ = _
    rw [P_Reckoning_chosenClass_67.eq_2, gs_s, gt_t t2', b3.2.2.2.2.2 k hk hwk, if_pos (Int32.le_refl _)]
end Cp
