/-! Layer C: the class finds the classes of a DAY's HALVES -/
/-- as far as the TEXTS of l are chosen among -/
noncomputable def eIH (D : Dt) (X : Dy) (sup : Sup) (g : Nat → Option Nat) (l : List Nat) (h : Nat) : Option Nat := match g h with
  | some k => if k ∈ l then clH D X sup g h else c0H D X g h
  | none => none
section Fi
variable {fa ta ia sa ca : Nat → Nat} {od : List Nat} {p : Mem} {D : Dt} {nc : Nat} {X : Dy} {sup : Sup} {w : Nat} {g : Nat → Option Nat}
theorem P_finds_94_e {k bA eA : Nat} (hk : k < D.2.1) (hG : GW D X g) (hb : bA < 50 ∧ 28 < eA ∧ eA < 50) (hT : ∀ p, PL p → mT p bA = 37 ∧ mN p bA = 48 ∧ mT p eA = 32 ∧ mN p eA = 48) (k41 : Option Nat → Option Nat → Int32 → Mem → Option (Unit × Mem)) {x3 v : Int32} : ∀ (e h fu : Nat) (p : Mem), h + e = 48 → e < fu → PD fa ta ia sa ca od D X sup w p → (∀ x, x < 48 → aR p bA x = (g x).map ta) →
    ∃ p', P_Reckoning_findClasses_94 k41 fu (some bA) (some eA) x3 (some (ta k)) v (nj h) p = k41 (some bA) (some eA) (x3 + 1) p' ∧ (∀ x, x < 48 → aI p' eA x = if h ≤ x ∧ g x = some k ∧ aI p eA x ≠ -1 then v else aI p eA x) ∧ PD fa ta ia sa ca od D X sup w p' ∧ Ch [] [eA] nil p p' ∧ mC p' = mC p ∧ mS p' = mS p
  | 0, h, fu + 1, p, he, _, P, hA => by
    refine ⟨p, ?_, fun x hx => by rw [if_neg (fun z => by omega)], P, Ch.rfl, rfl, rfl⟩
    rw [P_Reckoning_findClasses_94.eq_2, if_pos (by rw [show (48 : Int32) = nj 48 from rfl, nj_le (by omega) (by omega)]; omega)]
    unfold P_Reckoning_findClasses_130
    rw [vb_e]
  | e + 1, h, fu + 1, p, he, hf, P, hA => by
    obtain ⟨L, T, hp, S, M, N⟩ := id P
    have T1 := T.1
    obtain ⟨b1, b2, b3, b4⟩ := hT p hp
    rw [P_Reckoning_findClasses_94.eq_2, if_neg (by rw [show (48 : Int32) = nj 48 from rfl, nj_le (by omega) (by omega)]; omega), gs_s, gt_t b1, b2, inb_nj (by omega), gd_t (decide_eq_true (by omega)), ix_nj (by omega), hA h (by omega)]
    unfold P_Reckoning_findClasses_124
    simp only [vb_e, nj_add_l]
    have same : (¬ (g h = some k ∧ aI p eA h ≠ -1)) → ∃ p', P_Reckoning_findClasses_94 k41 fu (some bA) (some eA) x3 (some (ta k)) v (nj (h + 1)) p = k41 (some bA) (some eA) (x3 + 1) p' ∧ (∀ x, x < 48 → aI p' eA x = if h ≤ x ∧ g x = some k ∧ aI p eA x ≠ -1 then v else aI p eA x) ∧ PD fa ta ia sa ca od D X sup w p' ∧ Ch [] [eA] nil p p' ∧ mC p' = mC p ∧ mS p' = mS p := fun hno => by
      obtain ⟨p', a1, a2, a3⟩ := P_finds_94_e hk hG hb hT k41 (x3 := x3) (v := v) e (h + 1) fu p (by omega) (by omega) P hA
      refine ⟨p', a1, fun x hx => ?_, a3⟩
      rw [a2 x hx]
      by_cases q : x = h
      · rw [if_neg (fun z => by omega), if_neg (fun z => hno (q ▸ z.2))]
      · by_cases q2 : h + 1 ≤ x ∧ g x = some k ∧ aI p eA x ≠ -1
        · rw [if_pos q2, if_pos ⟨by omega, q2.2⟩]
        · rw [if_neg q2, if_neg (fun z => q2 ⟨by omega, z.2⟩)]
    by_cases q : g h = some k
    · rw [if_pos (by rw [q]; rfl), gs_s, gt_t b3, b4, inb_nj (by omega), gd_t (decide_eq_true (by omega)), gd_t (decide_eq_true (by omega))]
      by_cases c : aI p eA h = -1
      · rw [if_pos c]
        exact same (fun z => z.2 c)
      · rw [if_neg c]
        have c1 : Ch [] [eA] nil p (wI p eA h v) := Ch.rfl.wI (Or.inl (by simp))
        have P1 := P.Ch c1.dy (by decide) (by decide) (by simp; omega) ⟨by rw [k_mI_wI]; exact S.1, fun k j hk => by rw [k_aI_wI (by have := (L.2.1.2.1 k hk).1; omega)]; exact S.2 k j hk⟩
        obtain ⟨p', a1, a2, a3, a4, a5, a6⟩ := P_finds_94_e hk hG hb hT k41 (x3 := x3) (v := v) e (h + 1) fu (wI p eA h v) (by omega) (by omega) P1 (fun x hx => by rw [k_aR_wI]; exact hA x hx)
        refine ⟨p', a1, fun x hx => ?_, a3, c1.trans a4, by rw [a5, k_mC_wI], by rw [a6, k_mS_wI]⟩
        rw [a2 x hx, k_aI_wI_e, up1_ap]
        by_cases y : x = h
        · rw [if_neg (fun z => by omega), if_pos y, if_pos ⟨by omega, by rw [y]; exact q, by rw [y]; exact c⟩]
        · rw [if_neg y]
          by_cases q2 : h + 1 ≤ x ∧ g x = some k ∧ aI p eA x ≠ -1
          · rw [if_pos q2, if_pos ⟨by omega, q2.2⟩]
          · rw [if_neg q2, if_neg (fun z => q2 ⟨by omega, z.2⟩)]
    · have hne : ¬ (g h).map ta = some (ta k) := fun z => by
        cases c : g h with
        | none => rw [c] at z; cases z
        | some k' =>
          rw [c] at z
          have hk' := (hG h k' c).1
          exact q (by rw [c, ta_inj L hk' hk (Option.some.inj z)])
      rw [if_neg hne]
      exact same (fun z => q z.1)
theorem c0_60 (W : WText D nc) (Wi : WItems D nc) (hn60 : nc ≤ 60) (hd : xd X < 140) (hG : GW D X g) {h j : Nat} (e : c0H D X g h = some j) : j < 60 := by
  cases c : g h with
  | none => unfold c0H at e; rw [c] at e; cases e
  | some k =>
    obtain ⟨z, hz, -⟩ := c0_some c e
    have hlen := (rowQ_W (X := X) W hd (hG h k c).1).len Wi hn60
    have := get_mem hz
    omega
theorem P_finds_41_e (W : WText D nc) (Wi : WItems D nc) (hn60 : nc ≤ 60) (hd : xd X < 140) (hG : GW D X g) {bA eA : Nat} (hb : bA < 50 ∧ 28 < eA ∧ eA < 50) (hbe : bA ≠ eA) (hT : ∀ p, PL p → mT p bA = 37 ∧ mN p bA = 48 ∧ mT p eA = 32 ∧ mN p eA = 48) (hb28 : 28 < bA) (hw : w + 48 < 2147483647) : ∀ (e i fu : Nat) (p : Mem) (w1 : Nat), i + e = D.2.1 → e < fu → PD fa ta ia sa ca od D X sup w1 p → w1 ≤ w + sm (fun k => cO g k 48) (od.take i) → (∀ x, x < 48 → aR p bA x = (g x).map ta) → (∀ x, x < 48 → aI p eA x = jo (eIH D X sup g (od.take i) x)) →
    ∃ p' w', P_Reckoning_findClasses_41 fu (some bA) (some eA) (nj i) p = some ((), p') ∧ (∀ x, x < 48 → aI p' eA x = jo (clH D X sup g x)) ∧ PD fa ta ia sa ca od D X sup w' p' ∧ w' ≤ w + 48 ∧ Ch [1157] [4, eA] (dy4 ta D.2.1) p p' ∧ mC p' = mC p ∧ mS p' = mS p
  | 0, i, fu + 1, p, w1, hi, _, P, hw1, hA, hE => by
    obtain ⟨L, T, hp, S, M, N⟩ := id P
    have h24 := W.1
    have ht : od.take i = od := List.take_of_length_le (by rw [L.2.2.1.1]; omega)
    have hall := walks_all (g := g) (od_nodup L.2.2.1.2.2.2)
    rw [ht] at hw1 hE
    refine ⟨p, w1, ?_, fun x hx => ?_, P, by omega, Ch.rfl, rfl, rfl⟩
    · rw [P_Reckoning_findClasses_41.eq_2, L.2.1.1, if_pos (by rw [nj_le (by omega) (by omega)]; omega)]
    · rw [hE x hx]
      congr 1
      unfold eIH
      cases c : g x with
      | none => unfold clH; rw [c]
      | some k =>
        show (if k ∈ od then _ else _) = _
        rw [if_pos ((L.2.2.1.2.2.1 k).mpr (hG x k c).1)]
  | e + 1, i, fu + 1, p, w1, hi, hf, P, hw1, hA, hE => by
    obtain ⟨L, T, hp, S, M, N⟩ := id P
    have h24 := W.1
    obtain ⟨l, l1, l2, l3⟩ := od_get L (i := i) (by omega)
    obtain ⟨t1, t2, -⟩ := L.2.1.2.1 l l2
    have htake : od.take (i + 1) = od.take i ++ [l] := by
      rw [List.take_add_one, l1]
      rfl
    have hnl : l ∉ od.take i := fun hm => by
      have hn := od_nodup L.2.2.1.2.2.2
      have : (od.take (i + 1)).Nodup := hn.sublist (List.take_sublist _ _)
      rw [htake, List.nodup_append] at this
      exact this.2.2 l hm l (by simp) rfl
    have hsm : sm (fun k => cO g k 48) (od.take (i + 1)) = sm (fun k => cO g k 48) (od.take i) + (cO g l 48 + 0) := by rw [htake, sm_app]; rfl
    have hle : sm (fun k => cO g k 48) (od.take (i + 1)) ≤ 48 := walks_all ((od_nodup L.2.2.1.2.2.2).sublist (List.take_sublist _ _))
    have eold : ∀ x, g x ≠ some l → eIH D X sup g (od.take (i + 1)) x = eIH D X sup g (od.take i) x := fun x hx => by
      unfold eIH
      cases c : g x with
      | none => rfl
      | some k =>
        have hkl : k ≠ l := fun z => hx (by rw [c, z])
        show (if k ∈ od.take (i + 1) then _ else _) = if k ∈ od.take i then _ else _
        rw [htake]
        by_cases q : k ∈ od.take i
        · rw [if_pos q, if_pos (by simp [q])]
        · rw [if_neg q, if_neg (by simp [q, hkl])]
    have enew : ∀ x, g x = some l → eIH D X sup g (od.take (i + 1)) x = clH D X sup g x ∧ eIH D X sup g (od.take i) x = c0H D X g x := fun x hx => by
      unfold eIH
      rw [hx]
      constructor
      · show (if l ∈ od.take (i + 1) then _ else _) = _
        rw [htake, if_pos (by simp)]
      · show (if l ∈ od.take i then _ else _) = _
        rw [if_neg hnl]
    have skip : (∀ x, x < 48 → g x = some l → clH D X sup g x = c0H D X g x) → ∃ p' w', P_Reckoning_findClasses_41 fu (some bA) (some eA) (nj (i + 1)) p = some ((), p') ∧ (∀ x, x < 48 → aI p' eA x = jo (clH D X sup g x)) ∧ PD fa ta ia sa ca od D X sup w' p' ∧ w' ≤ w + 48 ∧ Ch [1157] [4, eA] (dy4 ta D.2.1) p p' ∧ mC p' = mC p ∧ mS p' = mS p := fun hs => by
      refine P_finds_41_e W Wi hn60 hd hG hb hbe hT hb28 hw e (i + 1) fu p w1 (by omega) (by omega) P (by rw [hsm]; omega) hA (fun x hx => ?_)
      rw [hE x hx]
      congr 1
      by_cases q : g x = some l
      · rw [(enew x q).1, (enew x q).2, hs x hx q]
      · rw [eold x q]
    rw [P_Reckoning_findClasses_41.eq_2, L.2.1.1, if_neg (by rw [nj_le (by omega) (by omega)]; omega), inb_nj (by omega), gd_t (decide_eq_true (by omega)), ix_nj (by omega), l3, gs_s, gt_t t2, M.1 l l2]
    unfold P_Reckoning_findClasses_130
    simp only [vb_e, nj_add_l]
    cases ci : inH D X l with
    | false =>
      rw [if_pos (by rfl)]
      exact skip (fun x _ hx => by have := (hG x l hx).2.1; rw [ci] at this; cases this)
    | true =>
      rw [if_neg (by decide)]
      by_cases c5 : mI p 1293 (ta l) = 51
      · rw [if_pos c5]
        refine skip (fun x _ hx => ?_)
        have hwk := (hG x l hx).2.2
        have e93 : mI p 1293 (ta l) = chQ D X l + 51 := (M.2.1 l l2 ci hwk).2.2.1
        have ch0 : chQ D X l = 0 := by rw [e93] at c5; grind
        unfold clH
        rw [hx]
        simp only
        cases c0 : c0H D X g x with
        | none => rfl
        | some j => simp only [ch0, if_true]
      · rw [if_neg c5]
        obtain ⟨v, p1, w2, a1, a2, a3, a4, a5, a6, a7⟩ := P_chosenClass_e W Wi hn60 hd hG l2 ci ⟨hb.1, hb.2.2⟩ hT P (by omega) hA (fun x hx q => by rw [hE x hx, (enew x q).2])
        have n4 : ∀ a, a < 50 → ¬ dy4 ta D.2.1 a := fun a ha q => by have := dy4_51 L.2.1 q; omega
        have T1 := T.1
        have r1 : aR p1 bA = aR p bA := a5.ar (by simp; omega) (n4 _ hb.1) (by omega)
        have r2 : aI p1 eA = aI p eA := a5.ai (by simp; omega) (n4 _ hb.2.2) (by omega)
        rw [a1, bn_s]
        obtain ⟨p2, b1, b2, b3, b4, b5, b6⟩ := P_finds_94_e l2 hG hb hT (fun z0 z1 z2 z3 => P_Reckoning_findClasses_41 fu z0 z1 z2 z3) (x3 := nj i) (v := v) 48 0 FU p1 (by omega) (by unfold FU; omega) a3 (fun x hx => by rw [r1]; exact hA x hx)
        have b1' : P_Reckoning_findClasses_94 (fun z0 z1 z2 z3 => P_Reckoning_findClasses_41 fu z0 z1 z2 z3) FU (some bA) (some eA) (nj i) (some (ta l)) v 0 p1 = P_Reckoning_findClasses_41 fu (some bA) (some eA) (nj (i + 1)) p2 := by rw [← nj_add_l]; exact b1
        rw [b1']
        obtain ⟨p', w', d1, d2, d3, d4, d5, d6, d7⟩ := P_finds_41_e W Wi hn60 hd hG hb hbe hT hb28 hw e (i + 1) fu p2 w2 (by omega) (by omega) b3 (by rw [hsm]; omega) (fun x hx => by rw [b4.ar (by simp; exact hbe) nil_no (by omega), r1]; exact hA x hx) (fun x hx => by
          rw [b2 x hx, r2, hE x hx]
          by_cases q : g x = some l
          · rw [(enew x q).1, (enew x q).2]
            have hwk := (hG x l q).2.2
            have e93 : mI p 1293 (ta l) = chQ D X l + 51 := (M.2.1 l l2 ci hwk).2.2.1
            have ch0 : ¬ chQ D X l = 0 := fun z => c5 (by rw [e93, z]; rfl)
            unfold clH
            rw [q]
            simp only
            cases c0 : c0H D X g x with
            | none => rw [if_neg (fun z => z.2.2 (by rfl))]
            | some j =>
              have := c0_60 W Wi hn60 hd hG c0
              rw [if_pos ⟨by omega, trivial, jo_some (by omega)⟩, a2 hwk]
              simp only [if_neg ch0]
          · rw [if_neg (fun z => q z.2.1), eold x q])
        exact ⟨p', w', d1, d2, d3, d4, ((a5.mono (fun _ h => h) (by simp) (fun _ h => h)).trans (b4.dy.mono (by simp) (by simp) (fun _ h => h))).trans d5, by omega, by omega⟩
theorem P_finds_2_e (W : WText D nc) (Wi : WItems D nc) (hn60 : nc ≤ 60) (hd : xd X < 140) (hG : GW D X g) {bA eA : Nat} (hb : bA < 50 ∧ 28 < eA ∧ eA < 50) (hbe : bA ≠ eA ∧ eA ≠ 30) (hT : ∀ p, PL p → mT p bA = 37 ∧ mN p bA = 48 ∧ mT p eA = 32 ∧ mN p eA = 48) : ∀ (e h fu : Nat) (p : Mem), h + e = 48 → e < fu → PD fa ta ia sa ca od D X sup w p → (∀ x, x < 48 → aI p 30 x = tsH D X x) → (∀ x, x < 48 → aR p bA x = (g x).map ta) → (∀ x, x < h → aI p eA x = jo (c0H D X g x)) →
    ∃ p', P_Reckoning_findClasses_2 fu (some bA) (some eA) (nj h) p = P_Reckoning_findClasses_39 (some bA) (some eA) p' ∧ (∀ x, x < 48 → aI p' eA x = jo (c0H D X g x)) ∧ PD fa ta ia sa ca od D X sup w p' ∧ Ch [] [eA] nil p p' ∧ mC p' = mC p ∧ mS p' = mS p
  | 0, h, fu + 1, p, he, _, P, h30, hA, hE => by
    refine ⟨p, ?_, by rw [show 48 = h by omega]; exact hE, P, Ch.rfl, rfl, rfl⟩
    rw [P_Reckoning_findClasses_2.eq_2, if_pos (by rw [show (48 : Int32) = nj 48 from rfl, nj_le (by omega) (by omega)]; omega)]
  | e + 1, h, fu + 1, p, he, hf, P, h30, hA, hE => by
    obtain ⟨L, T, hp, S, M, N⟩ := id P
    obtain ⟨b1, b2, b3, b4⟩ := hT p hp
    have c1 : Ch [] [eA] nil p (wI p eA h (jo (c0H D X g h))) := Ch.rfl.wI (Or.inl (by simp))
    have P1 := P.Ch c1.dy (by decide) (by decide) (by simp; omega) ⟨by rw [k_mI_wI]; exact S.1, fun k j hk => by rw [k_aI_wI (by have := (L.2.1.2.1 k hk).1; omega)]; exact S.2 k j hk⟩
    obtain ⟨p', a1, a2, a3, a4, a5, a6⟩ := P_finds_2_e W Wi hn60 hd hG hb hbe hT e (h + 1) fu (wI p eA h (jo (c0H D X g h))) (by omega) (by omega) P1 (fun x hx => by rw [k_aI_wI (by omega)]; exact h30 x hx) (fun x hx => by rw [k_aR_wI]; exact hA x hx) (fun x hx => by
      rw [k_aI_wI_e, up1_ap]
      by_cases q : x = h
      · rw [if_pos q, q]
      · rw [if_neg q]; exact hE x (by omega))
    refine ⟨p', ?_, a2, a3, c1.trans a4, by rw [a5, k_mC_wI], by rw [a6, k_mS_wI]⟩
    rw [P_Reckoning_findClasses_2.eq_2, if_neg (by rw [show (48 : Int32) = nj 48 from rfl, nj_le (by omega) (by omega)]; omega), gs_s, gt_t b1, b2, inb_nj (by omega), gd_t (decide_eq_true (by omega)), ix_nj (by omega), hA h (by omega)]
    unfold P_Reckoning_findClasses_32
    simp only [gs_s, gt_t b3, b4, inb_nj (show h < 2147483648 by omega), gd_t (decide_eq_true (show h < 48 by omega)), vb_e, nj_add_l, ix_nj (show h < 2147483648 by omega)]
    cases c : g h with
    | none =>
      rw [if_pos (by rfl)]
      have : c0H D X g h = none := by unfold c0H; rw [c]
      rw [this] at a1
      exact a1
    | some k =>
      obtain ⟨hk, hi, hwk⟩ := hG h k c
      have h60 : D.1 8 k = 0 ∨ D.1 8 k = 3 := of_decide_eq_true hwk
      have hlen := (rowQ_W (X := X) W hd hk).len Wi hn60
      have hfc := P_firstClass_e L hk h60 (M.2.1 k hk hi hwk) (rowQ_W (X := X) W hd hk) hlen (tsH D X h)
      have ec : c0H D X g h = fcR D (tsH D X h) (rowQ D X k) 0 := by unfold c0H; rw [c]
      rw [ec] at a1
      show (if some (ta k) = none then _ else gs (some (ta k)) _) = _
      rw [if_neg (by simp), gs_s, gt_t (L.2.1.2.1 k hk).2.1, h30 h (by omega)]
      change bn (P_Text_firstClass (ta k) (tsH D X h) p) _ = _
      rw [hfc, bn_s, gt_t b3, b4, gd_t (decide_eq_true (show h < 48 by omega))]
      exact a1
theorem P_findClasses_e (W : WText D nc) (Wi : WItems D nc) (hn60 : nc ≤ 60) (hd : xd X < 140) (hG : GW D X g) {bA eA : Nat} (hb : bA < 50 ∧ 28 < eA ∧ eA < 50) (hbe : bA ≠ eA ∧ eA ≠ 30) (hb28 : 28 < bA) (hT : ∀ p, PL p → mT p bA = 37 ∧ mN p bA = 48 ∧ mT p eA = 32 ∧ mN p eA = 48) (hw : w + 48 < 2147483647) (P : PD fa ta ia sa ca od D X sup w p) (h30 : ∀ x, x < 48 → aI p 30 x = tsH D X x) (hA : ∀ x, x < 48 → aR p bA x = (g x).map ta) :
    ∃ p' w', P_Reckoning_findClasses (some bA) (some eA) p = some ((), p') ∧ (∀ x, x < 48 → aI p' eA x = jo (clH D X sup g x)) ∧ PD fa ta ia sa ca od D X sup w' p' ∧ w' ≤ w + 48 ∧ Ch [1157] [4, eA] (dy4 ta D.2.1) p p' ∧ mC p' = mC p ∧ mS p' = mS p := by
  have h24 := W.1
  have T1 := P.2.1.1
  obtain ⟨p1, a1, a2, a3, a4, a5, a6⟩ := P_finds_2_e W Wi hn60 hd hG hb hbe hT 48 0 FU p (by omega) (by unfold FU; omega) P h30 hA (fun _ h => absurd h (by omega))
  obtain ⟨p', w', b1, b2, b3, b4, b5, b6, b7⟩ := P_finds_41_e W Wi hn60 hd hG hb hbe.1 hT hb28 hw D.2.1 0 FU p1 w (by omega) (by unfold FU; omega) a3 (by omega) (fun x hx => by rw [a4.ar (by simp; exact hbe.1) nil_no (by omega)]; exact hA x hx) (fun x hx => by
    rw [a2 x hx]
    congr 1
    unfold eIH
    cases c : g x with
    | none => unfold c0H; rw [c]
    | some k => show _ = if k ∈ [] then _ else _; rw [if_neg List.not_mem_nil])
  refine ⟨p', w', ?_, b2, b3, b4, (a4.dy.mono (by simp) (by simp) (fun _ h => h)).trans b5, by omega, by omega⟩
  unfold P_Reckoning_findClasses
  exact a1.trans b1
end Fi
