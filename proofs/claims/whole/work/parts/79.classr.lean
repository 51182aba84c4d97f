/-! Layer C: the reference's classes of a DAY -/
def byA (s : Bool) : Nat := if s then 64 else 62
def ouA (s : Bool) : Nat := if s then 65 else 63
/-- what is supposed, in the reference -/
def SuR (D : Dt) (sup : Sup) (r : Mem) : Prop := (sup = none → mI r 1622 0 = -1) ∧ ∀ s, sup = some s → s.1 < D.2.1 ∧ mI r 1622 0 = nj s.1 ∧ mI r 1623 0 = s.2.1 ∧ mI r 1624 0 = s.2.2
section Cr
variable {r : Mem} {D : Dt} {nc : Nat} {X : Dy} {sup : Sup} {g : Nat → Option Nat} {who : Nat}
theorem SuR.Ch {F A : List Nat} {r' : Mem} (h : SuR D sup r) (hC : 82 ≤ mC r) (c : Ch F A nil r r') (hF : (F.all fun f => f != 1622 && f != 1623 && f != 1624) = true) : SuR D sup r' := by
  have f : ∀ f, (f = 1622 ∨ f = 1623 ∨ f = 1624) → mI r' f 0 = mI r f 0 := fun f hf => c.i (fun q => by
    have := List.all_eq_true.mp hF f q
    simp at this
    omega) (by omega)
  unfold SuR
  rw [f 1622 (by omega), f 1623 (by omega), f 1624 (by omega)]
  exact h
theorem R_eachOf_5_e (hD : dat r = D) (W : WText D nc) (Wi : WItems D nc) {k : Nat} {S : RS} (hk : k < D.2.1) (hR : RowsR r k S) (hW : WRow D S.1) (hl : S.1.length ≤ 60) {t : Int32} : ∀ (d j fu : Nat), j + d = S.1.length → d < fu → R_eachOf_5 fu (nj k) t (nj (64 * k + j)) r = some (jk k (fcR D t (S.1.drop j) j), r)
  | 0, j, fu + 1, hj, _ => by
    have h24 := W.1
    rw [R_eachOf_5.eq_2, inb_nj (by omega), gd_t (decide_eq_true (by omega)), ix_nj (by omega), hR.1, nj_l_mul, nj_add, if_pos (by rw [nj_le (by omega) (by omega)]; omega), List.drop_of_length_le (by omega)]
    rfl
  | d + 1, j, fu + 1, hj, hf => by
    have h24 := W.1
    have ih := R_eachOf_5_e hD W Wi hk hR hW hl (t := t) d (j + 1) fu (by omega) (by omega)
    obtain ⟨q, hq⟩ : ∃ q, S.1[j]? = some q := ⟨S.1[j]'(by omega), List.getElem?_eq_getElem (by omega)⟩
    have hdr : S.1.drop j = q :: S.1.drop (j + 1) := by
      rw [List.drop_eq_getElem_cons (show j < S.1.length by omega)]
      rw [List.getElem?_eq_getElem (show j < S.1.length by omega)] at hq
      rw [Option.some.inj hq]
    obtain ⟨y1, y2, y3⟩ := isI_30 W (hW.1 q (List.mem_of_getElem? hq)).1
    have y4 : q.1 < 30 * D.2.1 := by omega
    have g1 : ∀ {β : Type} (c : Option β), gd (inb (nj (64 * k + j)) 1536) c = c := fun c => by rw [inb_nj (by omega), gd_t (decide_eq_true (by omega))]
    have g2 : ∀ {β : Type} (c : Option β), gd (inb (nj q.1) 750) c = c := fun c => by rw [inb_nj (by omega), gd_t (decide_eq_true (by omega))]
    have e54 : aI r 54 (ix (nj (64 * k + j))) = nj q.1 := by rw [ix_nj (by omega)]; exact (hR.2.1 j q hq).1
    rw [R_eachOf_5.eq_2, inb_nj (by omega), gd_t (decide_eq_true (by omega)), ix_nj (show k < 2147483648 by omega), hR.1, nj_l_mul, nj_add, if_neg (by rw [nj_le (by omega) (by omega)]; omega), g1, g1, e54, g2, g2, ix_nj (show q.1 < 2147483648 by omega), dat_15 hD (x := 15) (by omega) y4, dat_15 hD (x := 17) (by omega) y4, hdr]
    unfold R_eachOf_56
    rw [vb_e, nj_add_l]
    unfold fcR
    by_cases c : D.1 15 q.1 = 2
    · rw [if_pos c]
      by_cases c2 : ((D.1 17 q.1) >>> (t &&& 31)) &&& 1 = 1
      · rw [if_pos c2, if_pos ⟨c, c2⟩]; rfl
      · rw [if_neg c2, if_neg (fun z => c2 z.2)]; exact ih
    · rw [if_neg c, if_neg (fun z => c z.1)]; exact ih
theorem R_eachOf_e (hD : dat r = D) (W : WText D nc) (Wi : WItems D nc) {k : Nat} {S : RS} (hk : k < D.2.1) (hR : RowsR r k S) (hW : WRow D S.1) (hl : S.1.length ≤ 60) (t : Int32) : R_eachOf (nj k) t r = some (jk k (fcR D t S.1 0), r) := by
  have h24 := W.1
  have := R_eachOf_5_e hD W Wi hk hR hW hl (t := t) S.1.length 0 FU (by omega) (by unfold FU; omega)
  unfold R_eachOf
  rw [vb_e, nj_l_mul]
  exact this
theorem R_classes_6_e {k len : Nat} (hk : k < 24) (hl : len ≤ 60) {x2 x3 : Int32} : ∀ (e j fu : Nat) (r : Mem), j + e = len → e < fu → aI r 53 k = nj len → (∀ i, i < j → aI r 69 (64 * k + i) = 0) → ∃ r', R_classes_6 fu (nj k) x2 x3 (nj (64 * k + j)) r = R_classes_36 (nj k) x2 x3 r' ∧ (∀ i, i < len → aI r' 69 (64 * k + i) = 0) ∧ Ch [] [69] nil r r' ∧ mC r' = mC r
  | 0, j, fu + 1, r, he, _, h53, h69 => by
    refine ⟨r, ?_, by rw [show len = j by omega]; exact h69, Ch.rfl, rfl⟩
    rw [R_classes_6.eq_2, inb_nj (by omega), gd_t (decide_eq_true hk), ix_nj (by omega), h53, nj_l_mul, nj_add, if_pos (by rw [nj_le (by omega) (by omega)]; omega)]
  | e + 1, j, fu + 1, r, he, hf, h53, h69 => by
    have c1 : Ch [] [69] nil r (wI r 69 (64 * k + j) 0) := Ch.rfl.wI (Or.inl (by decide))
    obtain ⟨r', a1, a2, a3, a4⟩ := R_classes_6_e hk hl (x2 := x2) (x3 := x3) e (j + 1) fu (wI r 69 (64 * k + j) 0) (by omega) (by omega) (by rw [k_aI_wI (by omega)]; exact h53) (fun i hi => by
      rw [k_aI_wI_e, up1_ap]
      by_cases q : i = j
      · rw [if_pos (by omega)]
      · rw [if_neg (by omega)]; exact h69 i (by omega))
    refine ⟨r', ?_, a2, c1.trans a3, by rw [a4, k_mC_wI]⟩
    rw [R_classes_6.eq_2, inb_nj (by omega), gd_t (decide_eq_true hk), ix_nj (by omega), h53, nj_l_mul, nj_add, if_neg (by rw [nj_le (by omega) (by omega)]; omega), inb_nj (by omega), gd_t (decide_eq_true (by omega)), vb_e, vb_e, nj_add_l, ix_nj (by omega)]
    exact a1
theorem jk_some {k j : Nat} (hk : k < 24) (hj : j < 64) : ¬ jk k (some j) = -1 := by
  show ¬ nj (64 * k + j) = -1
  rw [nj_ne_m1 (by omega)]
  exact id
/-- halves get their own classes, and are counted -/
theorem R_classes_42_e (W : WText D nc) (Wi : WItems D nc) (hn60 : nc ≤ 60) (hd : xd X < 140) {k : Nat} (hk : k < D.2.1) {s : Bool} {x3 x4 : Int32} : ∀ (e h fu : Nat) (r : Mem), h + e = 48 → e < fu → RX D X who r → (∀ x, x < 48 → aI r 60 x = tsH D X x) → (∀ x, x < 48 → (aI r (byA s) x = nj k ↔ g x = some k)) → (∀ j, j < (rowQ D X k).length → aI r 69 (64 * k + j) = nj (cO (kH D X g k) j h)) →
    ∃ r', R_classes_42 fu (nj k) (tI s) x3 x4 (nj h) r = R_classes_139 (nj k) (tI s) x3 x4 r' ∧ (∀ j, j < (rowQ D X k).length → aI r' 69 (64 * k + j) = nj (tlH D X g k j)) ∧ (∀ x, x < 48 → aI r' (ouA s) x = if h ≤ x ∧ g x = some k then jk k (c0H D X g x) else aI r (ouA s) x) ∧ RX D X who r' ∧ Ch [] [69, ouA s] nil r r' ∧ mC r' = mC r
  | 0, h, fu + 1, r, he, _, HX, h60, hA, h69 => by
    refine ⟨r, ?_, by unfold tlH; rw [show 48 = h by omega]; exact h69, fun x hx => by rw [if_neg (fun z => by omega)], HX, Ch.rfl, rfl⟩
    rw [R_classes_42.eq_2, if_pos (by rw [show (48 : Int32) = nj 48 from rfl, nj_le (by omega) (by omega)]; omega)]
  | e + 1, h, fu + 1, r, he, hf, HX, h60, hA, h69 => by
    have h24 := W.1
    have C2 := HX.2.1
    have hlen := (rowQ_W (X := X) W hd hk).len Wi hn60
    have hRr : RowsR r k ((bQ D (xd X) (xf X) (xn X)).1 k) := HX.2.2.2.1.2.1 k hk
    have hs : ∀ j, cO (kH D X g k) j (h + 1) = cO (kH D X g k) j h + if kH D X g k h = some j then 1 else 0 := fun _ => rfl
    have gh : ∀ {β : Type} (c : Option β), gd (inb (nj h) 48) c = c := fun c => by rw [inb_nj (by omega), gd_t (decide_eq_true (by omega))]
    have ih : ix (nj h) = h := ix_nj (by omega)
    have e1 : R_classes_42 (fu + 1) (nj k) (tI s) x3 x4 (nj h) r = R_classes_70 (fun z0 z1 z2 z3 z4 z5 => R_classes_42 fu z0 z1 z2 z3 z4 z5) (nj k) (tI s) x3 x4 (nj h) (aI r (byA s) h) r := by
      rw [R_classes_42.eq_2, if_neg (by rw [show (48 : Int32) = nj 48 from rfl, nj_le (by omega) (by omega)]; omega), gh, gh, ih]
      cases s <;> rfl
    rw [e1]
    unfold R_classes_70 R_classes_133
    by_cases q : g h = some k
    · have hkh : kH D X g k h = c0H D X g h := by unfold kH; rw [if_pos q]
      have ec : c0H D X g h = fcR D (tsH D X h) (rowQ D X k) 0 := by unfold c0H; rw [q]
      have he' : R_eachOf (nj k) (tsH D X h) r = some (jk k (c0H D X g h), r) := by rw [ec]; exact R_eachOf_e HX.1 W Wi hk hRr (rowQ_W (X := X) W hd hk) hlen (tsH D X h)
      have e2 : (if aI r (byA s) h = nj k then gd (inb (nj h) 48) (bn (R_eachOf (nj k) (aI r 60 (ix (nj h))) r) fun r3 m4 => if tI s = 0 then gd (inb (nj h) 48) (vb (wI m4 63 (ix (nj h)) r3) fun m11 => R_classes_116 (fun z0 z1 z2 z3 z4 z5 => R_classes_42 fu z0 z1 z2 z3 z4 z5) (nj k) (tI s) x3 x4 (nj h) r3 m11) else gd (inb (nj h) 48) (vb (wI m4 65 (ix (nj h)) r3) fun m15 => R_classes_116 (fun z0 z1 z2 z3 z4 z5 => R_classes_42 fu z0 z1 z2 z3 z4 z5) (nj k) (tI s) x3 x4 (nj h) r3 m15)) else vb (nj h + 1) fun v1 => R_classes_42 fu (nj k) (tI s) x3 x4 v1 r) = R_classes_116 (fun z0 z1 z2 z3 z4 z5 => R_classes_42 fu z0 z1 z2 z3 z4 z5) (nj k) (tI s) x3 x4 (nj h) (jk k (c0H D X g h)) (wI r (ouA s) h (jk k (c0H D X g h))) := by
        rw [if_pos ((hA h (by omega)).mpr q), gh, ih, h60 h (by omega), he', bn_s]
        cases s
        · rw [if_pos (by rfl), gh, vb_e]; rfl
        · rw [if_neg (by decide), gh, vb_e]; rfl
      rw [e2]
      have ho : ouA s = 63 ∨ ouA s = 65 := by cases s; exact Or.inl rfl; exact Or.inr rfl
      have hy : byA s = 62 ∨ byA s = 64 := by cases s; exact Or.inl rfl; exact Or.inr rfl
      have c1 : Ch [] [69, ouA s] nil r (wI r (ouA s) h (jk k (c0H D X g h))) := Ch.rfl.wI (Or.inl (by simp))
      have X1 := HX.Ch c1 (by rw [k_mC_wI]) (by decide) (by simp; omega)
      unfold R_classes_116 R_classes_133
      cases c : c0H D X g h with
      | none =>
        rw [if_pos (by rfl), vb_e, nj_add_l]
        rw [c] at c1 X1
        obtain ⟨r', a1, a2, a3, a4, a5, a6⟩ := R_classes_42_e W Wi hn60 hd hk (s := s) (x3 := x3) (x4 := x4) e (h + 1) fu (wI r (ouA s) h (jk k none)) (by omega) (by omega) X1 (fun x hx => by rw [k_aI_wI (by omega)]; exact h60 x hx) (fun x hx => by rw [k_aI_wI (by omega)]; exact hA x hx) (fun j hj => by
          rw [k_aI_wI (by omega), hs, hkh, c, if_neg (by simp)]
          exact h69 j hj)
        refine ⟨r', a1, a2, fun x hx => ?_, a4, c1.trans a5, by rw [a6, k_mC_wI]⟩
        rw [a3 x hx, k_aI_wI_e, up1_ap]
        by_cases y : x = h
        · rw [if_neg (fun z => by omega), if_pos y, if_pos ⟨by omega, by rw [y]; exact q⟩, y, c]
        · rw [if_neg y]
          by_cases q2 : h + 1 ≤ x ∧ g x = some k
          · rw [if_pos q2, if_pos ⟨by omega, q2.2⟩]
          · rw [if_neg q2, if_neg (fun z => q2 ⟨by omega, z.2⟩)]
      | some j0 =>
        obtain ⟨z, hz, -⟩ := c0_some q c
        have hj0 : j0 < (rowQ D X k).length := get_mem hz
        rw [if_neg (jk_some (by omega) (by omega)), show jk k (some j0) = nj (64 * k + j0) from rfl, inb_nj (by omega), gd_t (decide_eq_true (by omega)), gd_t (decide_eq_true (by omega)), ix_nj (by omega), k_aI_wI (by omega), h69 j0 hj0, vb_e, vb_e, nj_add_l, nj_add_l]
        have c2 : Ch [] [69, ouA s] nil r (wI (wI r (ouA s) h (nj (64 * k + j0))) 69 (64 * k + j0) (nj (cO (kH D X g k) j0 h + 1))) := (Ch.rfl.wI (Or.inl (by simp))).wI (Or.inl (by simp))
        have X2 := HX.Ch c2 (by rw [k_mC_wI, k_mC_wI]) (by decide) (by simp; omega)
        obtain ⟨r', a1, a2, a3, a4, a5, a6⟩ := R_classes_42_e W Wi hn60 hd hk (s := s) (x3 := x3) (x4 := x4) e (h + 1) fu (wI (wI r (ouA s) h (nj (64 * k + j0))) 69 (64 * k + j0) (nj (cO (kH D X g k) j0 h + 1))) (by omega) (by omega) X2 (fun x hx => by rw [k_aI_wI (by omega), k_aI_wI (by omega)]; exact h60 x hx) (fun x hx => by rw [k_aI_wI (by omega), k_aI_wI (by omega)]; exact hA x hx) (fun j hj => by
          rw [k_aI_wI_e, up1_ap, k_aI_wI (by omega), hs, hkh, c]
          by_cases y : j = j0
          · rw [if_pos (by omega), if_pos (by rw [y]), y]
          · rw [if_neg (by omega), if_neg (fun e => y (Option.some.inj e).symm)]
            exact h69 j hj)
        refine ⟨r', a1, a2, fun x hx => ?_, a4, c2.trans a5, by rw [a6, k_mC_wI, k_mC_wI]⟩
        rw [a3 x hx, k_aI_wI (by omega), k_aI_wI_e, up1_ap]
        by_cases y : x = h
        · rw [if_neg (fun z => by omega), if_pos y, if_pos ⟨by omega, by rw [y]; exact q⟩, y, c]
          rfl
        · rw [if_neg y]
          by_cases q2 : h + 1 ≤ x ∧ g x = some k
          · rw [if_pos q2, if_pos ⟨by omega, q2.2⟩]
          · rw [if_neg q2, if_neg (fun z => q2 ⟨by omega, z.2⟩)]
    · rw [if_neg (fun z => q ((hA h (by omega)).mp z)), vb_e, nj_add_l]
      obtain ⟨r', a1, a2, a3, a4, a5, a6⟩ := R_classes_42_e W Wi hn60 hd hk (s := s) (x3 := x3) (x4 := x4) e (h + 1) fu r (by omega) (by omega) HX h60 hA (fun j hj => by
        rw [hs]
        unfold kH
        rw [if_neg q, if_neg (by simp)]
        exact h69 j hj)
      refine ⟨r', a1, a2, fun x hx => ?_, a4, a5, a6⟩
      rw [a3 x hx]
      by_cases q2 : h + 1 ≤ x ∧ g x = some k
      · rw [if_pos q2, if_pos ⟨by omega, q2.2⟩]
      · rw [if_neg q2, if_neg (fun z => q2 ⟨by
          by_cases y : x = h
          · exact absurd (y ▸ z.2) q
          · omega, z.2⟩)]
end Cr
