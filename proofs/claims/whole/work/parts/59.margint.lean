/-! Layer C: margin, told -/
section Mt
variable {fa ta ia sa ca : Nat → Nat} {od : List Nat} {p r : Mem} {nc : Nat}
theorem walk_Bs (h : Bs nc p r) (L : Lk fa ta ia sa ca od p (dat r)) (hSc : Sc ta p (dat r)) {p' : Mem} {w : Nat} (c : Ch [1157] [4] (dy3 ta (dat r).2.1) p p') (hS : Stm ta (dat r) w p') : Bs nc p' r ∧ Lk fa ta ia sa ca od p' (dat r) ∧ Sc ta p' (dat r) := by
  obtain ⟨⟨T, C2, W, Wf, e1, e2, hn60, e4, e5, -⟩, Ld, hp, Wi, hB⟩ := h
  have T1 := T.1
  have L' : Lk fa ta ia sa ca od p' (dat r) := L.Ch T (c.mono (fun _ h => h) (fun _ h => h) (dy3_T L.2.1)) (by decide) (by decide)
  have h51 : ∀ a, dy3 ta (dat r).2.1 a → 51 ≤ a := fun a ⟨k, hk, e⟩ => by have := (L.2.1.2.1 k hk).1; omega
  have hS' : Sc ta p' (dat r) := by
    refine ⟨fun j a b d e f => ?_, fun k hk hw => ?_, fun k j hk => ?_, ?_⟩
    · rw [c.ai (by decide) (fun q => by have := h51 26 q; omega) (by omega)]; exact hSc.1 j a b d e f
    · have lk : ta k < mC p := T.lt (by rw [(L.2.1.2.1 k hk).2.1]; decide)
      rw [c.i (by decide) lk]; exact hSc.2.1 k hk hw
    · rw [hS.1]; exact hS.2 k j hk
    · rw [c.r (by decide) (by omega)]; exact hSc.2.2.2
  refine ⟨⟨⟨T.Ch c, C2, W, Wf, e1, e2, hn60, ?_, e5, fa, ta, ia, sa, ca, od, L', hS'⟩, Ld.P c (by omega) (by decide) (by decide) h51, hp.Ch c (by decide), Wi, hB⟩, L', hS'⟩
  rw [c.i (by decide) (by omega)]; exact e4
theorem Bs.W {r' : Mem} (h : Bs nc p r) (c : Ch wkF (50 :: wkA) nil r r') (hC : mC r' = mC r) : Bs nc p r' := by
  obtain ⟨hc, Ld, hp, Wi, hB, hT⟩ := h
  have C2 := hc.2.1
  obtain ⟨k1, k2⟩ := hc.R c hC (by decide) (by decide) (by decide)
  exact ⟨k1, Ld.R c C2 (by decide) (by decide), hp, by rw [k2]; exact Wi, by rw [k2]; exact hB.Ch c C2 (by decide) (by decide), by rw [c.i (by decide) (by omega)]; exact hT⟩
/-- a whole TEXT in force -/
theorem isWhole_e (h : Bs nc p r) {t k d f n : Nat} (ht : t < (dat r).2.2) (hk : k < (dat r).2.1) (hd : d < 140) (hf : f < 8) (hn : n ≤ (dat r).2.2) (h45 : (dat r).1 45 t = nj k) (h44 : (dat r).1 44 t = (dat r).1 8 k) (hr : R_isAsked (nj t) (nj d) (nj f) (nj n) r = some (1, r)) (hw : (dat r).1 8 k = 0 ∨ (dat r).1 8 k = 3) :
    ∃ r', R_isWhole (nj t) (nj d) (nj f) (nj n) r = some (tI (infO (dat r) d f n k), r') ∧ Bt (dat r) d f n r' ∧ Bs nc p r' ∧ dat r' = dat r ∧ Ch [1610, 1612, 1613, 1614] [50, 51, 52, 53, 54, 55, 56, 57, 58] nil r r' ∧ mC r' = mC r ∧ mI r' 1612 0 = nj d ∧ mI r' 1613 0 = nj f ∧ mI r' 1614 0 = nj n := by
  have h160 := h.1.f160
  have W := h.1.2.2.1
  have h24 := W.1
  have n1 : ¬ ((1 : Int32) = 0) := by decide
  have e4 : aI r 44 (ix (nj t)) = (dat r).1 8 k := by rw [ix_nj (by omega), ← dat_44 (x := 44) (by omega)]; exact h44
  have g1 : ∀ {β : Type} (c : Option β), gd (inb (nj t) 160) c = c := fun c => by rw [inb_nj (by omega), gd_t (decide_eq_true (by omega))]
  have g2 : ∀ {β : Type} (c : Option β), gd (inb (nj k) 24) c = c := fun c => by rw [inb_nj (by omega), gd_t (decide_eq_true (by omega))]
  obtain ⟨r', b1, b2, b3, b4, b5⟩ := builds_e h hd hf hn
  have e5 : aI r' 45 (ix (nj t)) = nj k := by rw [ix_nj (by omega), ← dat_44 (x := 45) (by omega), b4]; exact h45
  have h33 : R_isWhole_33 (nj t) (nj d) (nj f) (nj n) r = some (tI (infO (dat r) d f n k), r') := by
    unfold R_isWhole_33
    rw [b1, bn_s, g1, e5, g2, ix_nj (by omega), b2.1 k hk, gz_tI]
  refine ⟨r', ?_, b2, b3, b4, b5⟩
  unfold R_isWhole
  rw [hr, bn_s, if_neg n1, g1, e4, g1, h33]
  rcases hw with hw | hw <;> rw [hw] <;> rfl
theorem isWhole_no {t k d f n : Nat} (h160 : (dat r).2.2 ≤ 160) (ht : t < (dat r).2.2) (h44 : (dat r).1 44 t = (dat r).1 8 k) (hr : R_isAsked (nj t) (nj d) (nj f) (nj n) r = some (1, r)) (hw : ¬ ((dat r).1 8 k = 0 ∨ (dat r).1 8 k = 3)) : R_isWhole (nj t) (nj d) (nj f) (nj n) r = some (0, r) := by
  have n1 : ¬ ((1 : Int32) = 0) := by decide
  have e4 : aI r 44 (ix (nj t)) = (dat r).1 8 k := by rw [ix_nj (by omega), ← dat_44 (x := 44) (by omega)]; exact h44
  have g1 : ∀ {β : Type} (c : Option β), gd (inb (nj t) 160) c = c := fun c => by rw [inb_nj (by omega), gd_t (decide_eq_true (by omega))]
  unfold R_isWhole
  rw [hr, bn_s, if_neg n1, g1, e4, if_neg (fun z => hw (Or.inl z)), g1, if_neg (fun z => hw (Or.inr z))]
/-- a question that may walk -/
def Askw (nc w n : Nat) (p r : Mem) (x y : Option (Int32 × Mem)) : Prop := ∃ v p' r', x = some (v, p') ∧ y = some (v, r') ∧ Bs nc p' r' ∧ Ch (1157 :: opF) opA (fun a => 51 ≤ a) p p' ∧ Ch [1610, 1612, 1613, 1614, 1625] [50, 51, 52, 53, 54, 55, 56, 57, 58, 59] nil r r' ∧ mC p' = mC p ∧ mS p' = mS p ∧ mC r' = mC r ∧ ∃ w', w' ≤ w + n ∧ mI p' 1157 25 = nj w'
theorem st_margin {w : Nat} (h : Bs nc p r) (hw0 : mI p 1157 25 = nj w) (hw1 : w < 2147483647) (x1 x2 x3 x4 x5 : Int32) : Askw nc w 1 p r (P_margin x1 x2 x3 x4 x5 p) (R_margin x1 x2 x3 x4 x5 r) := by
  have T1 := h.1.1.1
  rcases opened_e h x1 x3 x4 x5 with ⟨hp, hr⟩ | ⟨t, k, d, f, n, rfl, rfl, rfl, rfl, htn, hk, hd, hf, hn, h45, h12, h44, hr, fa, ta, ia, sa, ca, od, p', hp, hO, hB, L, c, c1, c2, hS, hV⟩
  · refine ⟨-1000000, p, r, ?_, ?_, h, Ch.rfl, Ch.rfl, rfl, rfl, rfl, w, by omega, hw0⟩
    · unfold P_margin
      rw [hp, bn_s, if_pos rfl]
    · unfold R_margin R_isWhole
      rw [hr, bn_s, if_pos rfl, bn_s, if_pos rfl]
  · have h160 := h.1.f160
    have W := h.1.2.2.1
    have hn60 : nc ≤ 60 := h.1.2.2.2.2.2.2.1
    have Wi := h.2.2.2.1
    have h24 := W.1
    have n2 : ¬ tI true = 0 := by decide
    have cO : Ch (1157 :: opF) opA (fun a => 51 ≤ a) p p' := c.mono (by decide) (fun _ h => h) (fun _ h => h)
    have hw2 : mI p' 1157 25 = nj w := by rw [c.i (by decide) (by omega)]; exact hw0
    have g1 : ∀ {β : Type} (c : Option β), gd (inb (nj t) 160) c = c := fun c => by rw [inb_nj (by omega), gd_t (decide_eq_true (by omega))]
    obtain ⟨-, t2, -, -, -, -, -, -, -, -, -, -, t13, t14, t15, t16, t17, t18, t19, t20, t21⟩ := L.2.1.2.1 k hk
    by_cases hw : (dat r).1 8 k = 0 ∨ (dat r).1 8 k = 3
    · have hisW : isW (dat r) k = true := decide_eq_true hw
      obtain ⟨r', b1, b2, b3, b4, b5, b6, b7, b8, b9⟩ := isWhole_e hB (by omega) hk hd hf hn h45 h44 hr hw
      have cR : Ch [1610, 1612, 1613, 1614, 1625] [50, 51, 52, 53, 54, 55, 56, 57, 58, 59] nil r r' := b5.mono (by decide) (by decide) (fun _ h => h)
      have e5 : aI r' 45 (ix (nj t)) = nj k := by rw [ix_nj (by omega), ← dat_44 (x := 45) (by omega), b4]; exact h45
      cases hi : infO (dat r) d f n k with
      | false =>
        refine ⟨-1000000, p', r', ?_, ?_, b3, cO, cR, c1, c2, b6, w, by omega, hw2⟩
        · unfold P_margin
          rw [hp, bn_s, if_neg (by simp), gs_s, gt_t t2, hO.1 k hk, hi]
          rfl
        · unfold R_margin
          rw [b1, bn_s, hi]
          rfl
      | true =>
        have hR : WRow (dat r) ((bQ (dat r) d f n).1 k).1 := bQ_W W hd hk
        have hlen := hR.len Wi hn60
        have hIs : ∀ q, q ∈ ((bQ (dat r) d f n).1 k).1 → q.1 < 30 * (dat r).2.1 := fun q hq => by
          obtain ⟨y1, y2, -⟩ := isI_30 W (hR.1 q hq).1
          omega
        have hPc := P_classEntry_e L hk hw (hO.2.1 k hk hi hisW) hR hlen x2
        have hRr := R_rowOf_e (nm := x2) b4 (by omega) (b2.2.1 k hk) (by show ((bQ (dat r) d f n).1 k).1.length ≤ 64; omega) hIs h24
        change R_rowOf (nj k) x2 r' = some (jk k (fnd (dat r) x2 ((bQ (dat r) d f n).1 k).1 0), r') at hRr
        have hP0 : P_margin (nj t) x2 (nj d) (nj f) (nj n) p = (if jo (match fnd (dat r) x2 ((bQ (dat r) d f n).1 k).1 0 with | some j => if isC (dat r) ((bQ (dat r) d f n).1 k).1 j = true then some j else none | none => none) = -1 then some ((-1000000 : Int32), p') else bn (P_Scene_marginOf (some (ta k)) (jo (match fnd (dat r) x2 ((bQ (dat r) d f n).1 k).1 0 with | some j => if isC (dat r) ((bQ (dat r) d f n).1 k).1 j = true then some j else none | none => none)) p') fun r13 m14 => some (r13, m14)) := by
          unfold P_margin
          rw [hp, bn_s, if_neg (by simp), gs_s, gt_t t2, hO.1 k hk, hi, if_neg n2, hPc, bn_s]
          rfl
        have hR0 : R_margin (nj t) x2 (nj d) (nj f) (nj n) r = (if jk k (fnd (dat r) x2 ((bQ (dat r) d f n).1 k).1 0) = -1 then some ((-1000000 : Int32), r') else if x2 < 0 then some (-1000000, r') else gd (inb (jk k (fnd (dat r) x2 ((bQ (dat r) d f n).1 k).1 0)) 1536) <| gd (inb (aI r' 54 (ix (jk k (fnd (dat r) x2 ((bQ (dat r) d f n).1 k).1 0)))) 750) <| if aI r' 15 (ix (aI r' 54 (ix (jk k (fnd (dat r) x2 ((bQ (dat r) d f n).1 k).1 0))))) = 2 then bn (R_heldMargin (jk k (fnd (dat r) x2 ((bQ (dat r) d f n).1 k).1 0)) 0 r') fun r16 m17 => some (r16, m17) else some (-1000000, r')) := by
          unfold R_margin R_margin_56
          rw [b1, bn_s, hi, if_neg n2, g1, e5, hRr, bn_s]
        cases cf : fnd (dat r) x2 ((bQ (dat r) d f n).1 k).1 0 with
        | none =>
          rw [cf] at hP0 hR0
          exact ⟨-1000000, p', r', by rw [hP0]; rfl, by rw [hR0]; rfl, b3, cO, cR, c1, c2, b6, w, by omega, hw2⟩
        | some j =>
          obtain ⟨-, z, z1, z2⟩ := fnd_some cf
          rw [Nat.sub_zero] at z1
          have hj : j < ((bQ (dat r) d f n).1 k).1.length := (List.getElem?_eq_some_iff.mp z1).1
          have hz := hIs z (List.mem_of_getElem? z1)
          obtain ⟨zi, zs, -⟩ := hR.1 z (List.mem_of_getElem? z1)
          have hx2 : ¬ x2 < 0 := by
            obtain ⟨k', j', hk', hj', e⟩ := zi
            obtain ⟨s, s1, s2, -, -, s5, -⟩ := Wi k' j' hk' hj'
            rw [← e] at s2 s5
            have : s = 2 ∨ s = 4 ∨ s = 5 := by
              rw [s2] at zs
              rcases zs with q | q | q
              · exact Or.inl ((nj_inj (b := 2) (by omega) (by omega)).mp q)
              · exact Or.inr (Or.inl ((nj_inj (b := 4) (by omega) (by omega)).mp q))
              · exact Or.inr (Or.inr ((nj_inj (b := 5) (by omega) (by omega)).mp q))
            obtain ⟨u, hu, eu⟩ := s5 (by omega)
            rw [← z2, eu, nj_nneg (by omega)]
            exact id
          rw [cf] at hP0 hR0
          change _ = (if nj (64 * k + j) = -1 then _ else if x2 < 0 then _ else gd (inb (nj (64 * k + j)) 1536) (gd (inb (aI r' 54 (ix (nj (64 * k + j)))) 750) (if aI r' 15 (ix (aI r' 54 (ix (nj (64 * k + j))))) = 2 then bn (R_heldMargin (nj (64 * k + j)) 0 r') fun r16 m17 => some (r16, m17) else some (-1000000, r')))) at hR0
          rw [if_neg (by rw [nj_ne_m1 (by omega)]; exact id), if_neg hx2, inb_nj (by omega), gd_t (decide_eq_true (by omega)), ix_nj (by omega), ((b2.2.1 k hk).2.1 j z z1).1, inb_nj (by omega), gd_t (decide_eq_true (by omega)), ix_nj (by omega), dat_15 b4 (x := 15) (by omega) hz] at hR0
          have hC : isC (dat r) ((bQ (dat r) d f n).1 k).1 j = decide ((dat r).1 15 z.1 = 2) := by
            unfold isC
            rw [z1]
          by_cases c3 : (dat r).1 15 z.1 = 2
          · rw [if_pos c3] at hR0
            have hC' : isC (dat r) ((bQ (dat r) d f n).1 k).1 j = true := by rw [hC, decide_eq_true c3]
            simp only [hC', if_true] at hP0
            change _ = (if nj j = -1 then _ else bn (P_Scene_marginOf (some (ta k)) (nj j) p') _) at hP0
            rw [if_neg (by rw [nj_ne_m1 (by omega)]; exact id)] at hP0
            obtain ⟨p2, m1, m2, m3, m4, m5⟩ := P_marginOf_e (inf := infO (dat r) d f n) (vs := vS (dat r) f d n 0) (sup := none) W Wi hn60 (fun k hk => bQ_W W hd hk) L hB.1.1 hB.2.2.1 (w := w) ⟨hw2, fun k j hk => by rw [← hw2]; exact hS.2.2.1 k j hk⟩ hw1 ⟨hO.1, hO.2.1, hV, hS.2.2.2, fun _ e => by cases e⟩ hk hi hisW z1 c3
            obtain ⟨r2, q1, q2, q3⟩ := R_heldMargin_e (sup := none) W Wi hn60 b4 b3.1.2.1 (by rw [b3.1.2.2.2.2.2.1, b4]) hd hf hn b2 b7 b8 b9 (fun _ => b3.2.2.2.2.2) (fun _ e => by cases e) hk z1 c3 0
            obtain ⟨B2, -, -⟩ := walk_Bs (fa := fa) (ta := ta) (ia := ia) (sa := sa) (ca := ca) (od := od) b3 (by rw [b4]; exact L) (by rw [b4]; exact hS) (by rw [b4]; exact m3) (by rw [b4]; exact m2)
            have B3 := B2.W q2 q3
            have h51 : ∀ a, dy3 ta (dat r).2.1 a → 51 ≤ a := fun a ⟨k, hk, e⟩ => by have := (L.2.1.2.1 k hk).1; omega
            refine ⟨_, p2, r2, by rw [hP0, m1, bn_s], by rw [hR0, q1, bn_s], B3, cO.trans (m3.mono (by decide) (by decide) h51), cR.trans (q2.mono (by decide) (by decide) (fun _ h => h)), by omega, by omega, by omega, w + 1, by omega, m2.1⟩
          · rw [if_neg c3] at hR0
            have hC' : isC (dat r) ((bQ (dat r) d f n).1 k).1 j = false := by rw [hC, decide_eq_false c3]
            simp only [hC'] at hP0
            exact ⟨-1000000, p', r', by rw [hP0]; rfl, hR0, b3, cO, cR, c1, c2, b6, w, by omega, hw2⟩
    · refine ⟨-1000000, p', r, ?_, ?_, hB, cO, Ch.rfl, c1, c2, rfl, w, by omega, hw2⟩
      · unfold P_margin P_Text_classEntry P_Text_entryOf
        have hE : P_Text_entryOf_2 FU (ta k) x2 0 p' = some (-1, p') := by
          show P_Text_entryOf_2 (FU - 1 + 1) (ta k) x2 0 p' = _
          rw [P_Text_entryOf_2.eq_2, hS.2.1 k hk hw, if_pos (Int32.le_refl _)]
        rw [hp, bn_s, if_neg (by simp), gs_s, gt_t t2, hE, bn_s, if_pos rfl, bn_s, if_pos rfl]
        by_cases q : mI p' 1287 (ta k) = 0
        · rw [if_pos q]
        · rw [if_neg q]
      · unfold R_margin
        rw [isWhole_no h160 (by omega) h44 hr hw, bn_s, if_pos rfl]
end Mt
