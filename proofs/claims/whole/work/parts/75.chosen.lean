/-! Layer C: the class's choice of a class -/
def dy4 (ta : Nat → Nat) (tc : Nat) : Nat → Prop := fun a => ∃ k, k < tc ∧ (a = ta k + 3 ∨ a = ta k + 4)
/-- the class through a DAY that is opened -/
def PD (fa ta ia sa ca : Nat → Nat) (od : List Nat) (D : Dt) (X : Dy) (sup : Sup) (w : Nat) (p : Mem) : Prop := Lk fa ta ia sa ca od p D ∧ Top p ∧ PL p ∧ Stm ta D w p ∧ MgQ ta ia D (bQ D (xd X) (xf X) (xn X)) (inH D X) (vS D (xf X) (xd X) (xn X) (xy X)) sup p ∧ ∀ k, k < D.2.1 → isW D k = false → mI p 1292 (ta k) = 0
/-- what g gives are whole TEXTS in force -/
def GW (D : Dt) (X : Dy) (g : Nat → Option Nat) : Prop := ∀ h k, g h = some k → k < D.2.1 ∧ inH D X k = true ∧ isW D k = true
section Cc
variable {fa ta ia sa ca : Nat → Nat} {od : List Nat} {p : Mem} {D : Dt} {nc : Nat} {X : Dy} {sup : Sup} {w : Nat} {g : Nat → Option Nat}
theorem dy4_T {a : Nat} : dy4 ta D.2.1 a → dyT ta D.2.1 a := fun ⟨k, hk, h⟩ => ⟨k, hk, by omega⟩
theorem dy4_51 (L : LText ta ia p D) {a : Nat} (h : dy4 ta D.2.1 a) : 51 ≤ a := by
  obtain ⟨k, hk, h⟩ := h
  have := (L.2.1 k hk).1
  omega
theorem dy4_row (L : LText ta ia p D) {k : Nat} (hk : k < D.2.1) : ¬ dy4 ta D.2.1 (ta k + 1) ∧ ¬ dy4 ta D.2.1 (ta k + 2) := by
  obtain ⟨-, -, -, -, -, -, -, -, -, -, -, -, -, -, -, -, t17, t18, -⟩ := L.2.1 k hk
  constructor
  · rintro ⟨l, hl, e⟩
    obtain ⟨-, -, -, -, -, -, -, -, -, -, -, -, -, -, -, -, -, -, u19, u20, -⟩ := L.2.1 l hl
    rcases e with e | e
    · rw [e, u19] at t17; exact absurd t17 (by decide)
    · rw [e, u20] at t17; exact absurd t17 (by decide)
  · rintro ⟨l, hl, e⟩
    obtain ⟨-, -, -, -, -, -, -, -, -, -, -, -, -, -, -, -, -, -, u19, u20, -⟩ := L.2.1 l hl
    rcases e with e | e
    · rw [e, u19] at t18; exact absurd t18 (by decide)
    · rw [e, u20] at t18; exact absurd t18 (by decide)
theorem t43 (L : LText ta ia p D) {k l : Nat} (hk : k < D.2.1) (hl : l < D.2.1) : ta k + 3 ≠ ta l + 4 := fun e => by
  obtain ⟨-, u2, -⟩ := L.2.1 k hk
  obtain ⟨-, -, -, -, -, -, -, -, -, -, -, -, -, -, -, -, t17, -⟩ := L.2.1 l hl
  rw [show ta k = ta l + 1 by omega, t17] at u2
  exact absurd u2 (by decide)
theorem MgQ.Ch {B : BSt} {inf : Nat → Bool} {vs : Nat → Int32} {F A : List Nat} {p' : Mem} (M : MgQ ta ia D B inf vs sup p) (L : LText ta ia p D) (T : Top p) (c : Ch F A (dy4 ta D.2.1) p p') (hF : (F.all fun f => f != 1287 && f != 1292 && f != 1293 && f != 1294 && f != 1158 && f != 1159 && f != 1160) = true) (hA : (A.all fun a => a != 27 && a < 50) = true) : MgQ ta ia D B inf vs sup p' := by
  have T1 := T.1
  have hf : ∀ f, (f = 1287 ∨ f = 1292 ∨ f = 1293 ∨ f = 1294 ∨ f = 1158 ∨ f = 1159 ∨ f = 1160) → f ∉ F := fun f h q => by
    have := List.all_eq_true.mp hF f q
    simp at this
    omega
  have ha : ∀ a, (a = 27 ∨ 50 ≤ a) → a ∉ A := fun a h q => by
    have := List.all_eq_true.mp hA a q
    simp at this
    omega
  obtain ⟨h1, h2, h3, h5, h6⟩ := M
  refine ⟨fun k hk => ?_, fun k hk a b => ?_, fun j hj => ?_, ?_, fun s hs => ?_⟩
  · have lk : ta k < mC p := T.lt (by rw [(L.2.1 k hk).2.1]; decide)
    rw [c.i (hf _ (by omega)) lk]; exact h1 k hk
  · obtain ⟨t1, t2, -, -, -, -, -, -, -, -, -, -, -, -, -, -, t17, t18, -⟩ := L.2.1 k hk
    have lk : ta k < mC p := T.lt (by rw [t2]; decide)
    have l1 : ta k + 1 < mC p := T.lt (by rw [t17]; decide)
    have l2 : ta k + 2 < mC p := T.lt (by rw [t18]; decide)
    have nd := dy4_row L hk
    unfold RowsP
    rw [c.i (hf _ (by omega)) lk, c.i (hf 1293 (by omega)) lk, c.i (hf 1294 (by omega)) lk, c.ar (ha _ (by omega)) nd.1 l1, c.ar (ha _ (by omega)) nd.2 l2]
    exact h2 k hk a b
  · rw [c.ai (ha _ (by omega)) (fun q => by have := dy4_51 L q; omega) (by omega)]; exact h3 j hj
  · rw [c.r (hf _ (by omega)) (by omega)]; exact h5
  · rw [c.i (hf 1159 (by omega)) (by omega), c.i (hf 1160 (by omega)) (by omega)]; exact h6 s hs
theorem PD.Ch {F A : List Nat} {p' : Mem} {w' : Nat} (h : PD fa ta ia sa ca od D X sup w p) (c : Ch F A (dy4 ta D.2.1) p p') (hF : (F.all fun f => (1026 ≤ f && f < 1158) || f == 1295 || f == 1296) = true) (hF2 : (F.all fun f => !(P_refs.any fun q => q.1 == f)) = true) (hA : (A.all fun a => a == 4 || (28 < a && a < 50)) = true) (hS : Stm ta D w' p') : PD fa ta ia sa ca od D X sup w' p' := by
  obtain ⟨L, T, hp, S, M, N⟩ := h
  have hf : ∀ f, f ∈ F → (1026 ≤ f ∧ f < 1158) ∨ f = 1295 ∨ f = 1296 := fun f q => by
    have := List.all_eq_true.mp hF f q
    simp at this
    omega
  have ha : ∀ a, a ∈ A → a = 4 ∨ (28 < a ∧ a < 50) := fun a q => by
    have := List.all_eq_true.mp hA a q
    simp at this
    omega
  refine ⟨L.Ch T (c.mono (fun _ h => h) (fun _ h => h) (fun a h => dy4_T h)) ?_ ?_, T.Ch c, hp.Ch c hF2, hS, M.Ch L.2.1 T c ?_ ?_, fun k hk hn => ?_⟩
  · rw [List.all_eq_true]
    intro f q
    have := hf f q
    simp [lkF]
    omega
  · rw [List.all_eq_true]
    intro f q
    have := ha f q
    simp
    omega
  · rw [List.all_eq_true]
    intro f q
    have := hf f q
    simp
    omega
  · rw [List.all_eq_true]
    intro f q
    have := ha f q
    simp
    omega
  · have lk : ta k < mC p := T.lt (by rw [(L.2.1.2.1 k hk).2.1]; decide)
    rw [c.i (fun q => by have := hf _ q; omega) lk]; exact N k hk hn
/-- stamps stay where only tallies are written -/
theorem Stm.Ch {F A : List Nat} {p' : Mem} (S : Stm ta D w p) (L : LText ta ia p D) (T : Top p) (c : Ch F A (fun a => ∃ k, k < D.2.1 ∧ a = ta k + 4) p p') (hF : 1157 ∉ F) (hA : ∀ a, 50 ≤ a → a ∉ A) : Stm ta D w p' := by
  have T1 := T.1
  refine ⟨by rw [c.i hF (by omega)]; exact S.1, fun k j hk => ?_⟩
  obtain ⟨t1, -, -, -, -, -, -, -, -, -, -, -, -, -, -, -, -, -, t19, -⟩ := L.2.1 k hk
  have l3 : ta k + 3 < mC p := T.lt (by rw [t19]; decide)
  rw [c.ai (hA _ (by omega)) (fun ⟨l, hl, e⟩ => t43 L hk hl e) l3]
  exact S.2 k j hk
theorem P_firstClass_2_e (L : Lk fa ta ia sa ca od p D) {k : Nat} {S : RS} (hk : k < D.2.1) (h60 : D.1 8 k = 0 ∨ D.1 8 k = 3) (hR : RowsP ta ia p k S) (hW : WRow D S.1) (hl : S.1.length ≤ 60) {t : Int32} : ∀ (d j fu : Nat), j + d = S.1.length → d < fu → P_Text_firstClass_2 fu (ta k) t (nj j) p = some (jo (fcR D t (S.1.drop j) j), p)
  | 0, j, fu + 1, hj, _ => by
    rw [P_Text_firstClass_2.eq_2, hR.1, if_pos (by rw [nj_le (by omega) (by omega)]; omega), List.drop_of_length_le (by omega)]
    rfl
  | d + 1, j, fu + 1, hj, hf => by
    have ih := P_firstClass_2_e L hk h60 hR hW hl (t := t) d (j + 1) fu (by omega) (by omega)
    obtain ⟨q, hq⟩ : ∃ q, S.1[j]? = some q := ⟨S.1[j]'(by omega), List.getElem?_eq_getElem (by omega)⟩
    have hdr : S.1.drop j = q :: S.1.drop (j + 1) := by
      rw [List.drop_eq_getElem_cons (show j < S.1.length by omega)]
      rw [List.getElem?_eq_getElem (show j < S.1.length by omega)] at hq
      rw [Option.some.inj hq]
    obtain ⟨-, -, -, -, -, -, -, -, -, -, -, -, t13, t14, -, -, t17, t18, -, -, t21⟩ := L.2.1.2.1 k hk
    obtain ⟨k', I⟩ := itemAt_of L (hW.1 q (List.mem_of_getElem? hq)).1
    have e34 : (D.1 15 q.1 + 32 = 34) = (D.1 15 q.1 = 2) := propext (by grind)
    rw [P_Text_firstClass_2.eq_2, hR.1, if_neg (by rw [nj_le (by omega) (by omega)]; omega), t13, gs_s, gt_t t17, (t21 h60).1, inb_nj (by omega), gd_t (decide_eq_true (by omega)), ix_nj (by omega), (hR.2.1 j q hq).1, gs_s, gt_t I.2.1, I.2.2.1, hdr]
    unfold P_Text_firstClass_43
    simp only [vb_e, nj_add_l]
    unfold fcR
    by_cases c : D.1 15 q.1 = 2
    · rw [if_pos (by rw [e34]; exact c), gs_s, gt_t t17, (t21 h60).1, inb_nj (by omega), gd_t (decide_eq_true (by omega)), (hR.2.1 j q hq).1, gs_s, gt_t I.2.1, (I.2.2.2.2.2.1 c).1]
      by_cases c2 : ((D.1 17 q.1) >>> (t &&& 31)) &&& 1 = 1
      · rw [if_pos c2, if_pos ⟨c, c2⟩]; rfl
      · rw [if_neg c2, if_neg (fun z => c2 z.2)]; exact ih
    · rw [if_neg (by rw [e34]; exact c), if_neg (fun z => c z.1)]; exact ih
theorem P_firstClass_e (L : Lk fa ta ia sa ca od p D) {k : Nat} {S : RS} (hk : k < D.2.1) (h60 : D.1 8 k = 0 ∨ D.1 8 k = 3) (hR : RowsP ta ia p k S) (hW : WRow D S.1) (hl : S.1.length ≤ 60) (t : Int32) : P_Text_firstClass (ta k) t p = some (jo (fcR D t S.1 0), p) := by
  unfold P_Text_firstClass
  exact P_firstClass_2_e L hk h60 hR hW hl S.1.length 0 FU (by omega) (by unfold FU; omega)
theorem rowQ_W (W : WText D nc) {k : Nat} (hd : xd X < 140) (hk : k < D.2.1) : WRow D (rowQ D X k) := bQ_W W hd hk
/-- halves that have a class are counted -/
theorem P_chosen_15_e (W : WText D nc) (Wi : WItems D nc) (hn60 : nc ≤ 60) (hd : xd X < 140) (hG : GW D X g) {k bA eA : Nat} (hk : k < D.2.1) (hb : bA < 50 ∧ eA < 50) (hT : ∀ p, PL p → mT p bA = 37 ∧ mN p bA = 48 ∧ mT p eA = 32 ∧ mN p eA = 48) : ∀ (e h fu : Nat) (p : Mem), h + e = 48 → e < fu → PD fa ta ia sa ca od D X sup w p → (∀ x, x < 48 → aR p bA x = (g x).map ta) → (∀ x, x < 48 → g x = some k → aI p eA x = jo (c0H D X g x)) → (isW D k = true → ∀ j, j < 60 → aI p (ta k + 4) j = nj (cO (kH D X g k) j h)) →
    ∃ p', P_Reckoning_chosenClass_15 fu (some (ta k)) (some bA) (some eA) (some (ta k + 4)) (nj h) p = P_Reckoning_chosenClass_55 (some (ta k)) (some (ta k + 4)) p' ∧ (isW D k = true → ∀ j, j < 60 → aI p' (ta k + 4) j = nj (tlH D X g k j)) ∧ PD fa ta ia sa ca od D X sup w p' ∧ Ch [] [] (fun a => ∃ k, k < D.2.1 ∧ a = ta k + 4) p p' ∧ mC p' = mC p ∧ mS p' = mS p
  | 0, h, fu + 1, p, he, _, P, hA, hE, ht => by
    refine ⟨p, ?_, by unfold tlH; rw [show 48 = h by omega]; exact ht, P, Ch.rfl, rfl, rfl⟩
    rw [P_Reckoning_chosenClass_15.eq_2, if_pos (by rw [show (48 : Int32) = nj 48 from rfl, nj_le (by omega) (by omega)]; omega)]
  | e + 1, h, fu + 1, p, he, hf, P, hA, hE, ht => by
    obtain ⟨L, T, hp, S, M, N⟩ := id P
    have T1 := T.1
    obtain ⟨b1, b2, b3, b4⟩ := hT p hp
    obtain ⟨t1, t2, -, -, -, -, -, -, -, -, -, -, -, -, -, -, -, -, -, t20, t21⟩ := L.2.1.2.1 k hk
    have hs : ∀ j, cO (kH D X g k) j (h + 1) = cO (kH D X g k) j h + if kH D X g k h = some j then 1 else 0 := fun _ => rfl
    rw [P_Reckoning_chosenClass_15.eq_2, if_neg (by rw [show (48 : Int32) = nj 48 from rfl, nj_le (by omega) (by omega)]; omega), gs_s, gt_t b1, b2, inb_nj (by omega), gd_t (decide_eq_true (by omega)), ix_nj (by omega), hA h (by omega)]
    unfold P_Reckoning_chosenClass_49
    simp only [vb_e, nj_add_l]
    by_cases q : g h = some k
    · obtain ⟨-, -, hwk⟩ := hG h k q
      have h60 : D.1 8 k = 0 ∨ D.1 8 k = 3 := of_decide_eq_true hwk
      have hkh : kH D X g k h = c0H D X g h := by unfold kH; rw [if_pos q]
      rw [if_pos (by rw [q]; rfl), gs_s, gt_t b3, b4, inb_nj (by omega), gd_t (decide_eq_true (by omega)), hE h (by omega) q]
      cases c : c0H D X g h with
      | none =>
        rw [if_pos (by rfl)]
        exact P_chosen_15_e W Wi hn60 hd hG hk hb hT e (h + 1) fu p (by omega) (by omega) P hA hE (fun z j hj => by
          rw [hs, hkh, c, if_neg (by simp)]
          exact ht z j hj)
      | some j0 =>
        obtain ⟨z, hz, -⟩ := c0_some q c
        have hlen := (rowQ_W (X := X) W hd hk).len Wi hn60
        have hj0 : j0 < 60 := by have := get_mem hz; omega
        have l4 : ta k + 4 < mC p := T.lt (by rw [t20]; decide)
        rw [if_neg (jo_some (by omega)), gs_s, gd_t (decide_eq_true (by omega)), gt_t t20, (t21 h60).2.2.2, show jo (some j0) = nj j0 from rfl, inb_nj (by omega), gd_t (decide_eq_true hj0), gd_t (decide_eq_true hj0), ix_nj (by omega), ht hwk j0 hj0, nj_add_l]
        have c1 : Ch [] [] (fun a => ∃ k, k < D.2.1 ∧ a = ta k + 4) p (wI p (ta k + 4) j0 (nj (cO (kH D X g k) j0 h + 1))) := Ch.rfl.wI (Or.inr ⟨k, hk, rfl⟩)
        have P1 := P.Ch (c1.mono (fun _ h => h) (fun _ h => h) (fun a ⟨k, hk, e⟩ => ⟨k, hk, Or.inr e⟩)) (by decide) (by decide) (by decide) (S.Ch L.2.1 T c1 List.not_mem_nil (fun _ _ => List.not_mem_nil))
        obtain ⟨p', a1, a2, a3, a4, a5, a6⟩ := P_chosen_15_e W Wi hn60 hd hG hk hb hT e (h + 1) fu (wI p (ta k + 4) j0 (nj (cO (kH D X g k) j0 h + 1))) (by omega) (by omega) P1 (fun x hx => by rw [k_aR_wI]; exact hA x hx) (fun x hx e => by rw [k_aI_wI (by omega)]; exact hE x hx e) (fun z j hj => by
          rw [k_aI_wI_e, up1_ap, hs, hkh, c]
          by_cases y : j = j0
          · rw [if_pos y, if_pos (by rw [y]), y]
          · rw [if_neg y, if_neg (fun e => y (Option.some.inj e).symm)]
            exact ht z j hj)
        exact ⟨p', a1, a2, a3, c1.trans a4, by rw [a5, k_mC_wI], by rw [a6, k_mS_wI]⟩
    · have hne : ¬ (g h).map ta = some (ta k) := fun z => by
        cases c : g h with
        | none => rw [c] at z; cases z
        | some k' =>
          rw [c] at z
          have hk' := (hG h k' c).1
          exact q (by rw [c, ta_inj L hk' hk (Option.some.inj z)])
      rw [if_neg hne]
      exact P_chosen_15_e W Wi hn60 hd hG hk hb hT e (h + 1) fu p (by omega) (by omega) P hA hE (fun z j hj => by
        rw [hs]
        unfold kH
        rw [if_neg q, if_neg (by simp)]
        exact ht z j hj)
end Cc
