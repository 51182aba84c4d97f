/-! Layer C: what read leaves as it was -/
/-- the class, from the start of read to behind the ITEMS -/
def Rdp (p b : Mem) : Prop := ∃ a, Ch BgF [18, 19, 20] nil p a ∧ Kiz a b
/-- the reference, of the TEXT x -/
def Rdr (x : Nat) (r m : Mem) : Prop := ∃ r1 r2, (Ch BgR [2, 3, 4, 5, 6, 14] nil r r1 ∧ mC r1 = mC r ∧ mS r1 = mS r ∧ ∀ j, j ≠ x → aI r1 14 j = aI r 14 j) ∧ Hr x r1 r2 ∧ Kir (30 * x) (200 * x) (500 * x) r2 m
def RpF : List Nat := BgF ++ ItG
def RrF : List Nat := BgR ++ RtF ++ RiF
def RrA : List Nat := [2, 3, 4, 5, 6, 8, 9, 10, 11, 13, 14] ++ RiA
section Fr
variable {p b r m : Mem} {x nc : Nat} {D : Dt} {fa ta ia sa ca : Nat → Nat} {od : List Nat}
theorem Rdp.ch (h : Rdp p b) : Ch RpF [18, 19, 20, 2, 3, 23, 24] nil p b := by
  obtain ⟨a, h1, h2⟩ := h
  exact Ch.trans (h1.mono (by decide) (by decide) (fun _ w => w)) (h2.1.mono (by decide) (by decide) (fun _ w => w))
theorem Rdr.ch (h : Rdr x r m) : Ch RrF RrA nil r m ∧ mC m = mC r ∧ mS m = mS r := by
  obtain ⟨r1, r2, ⟨c1, m1, s1, -⟩, ⟨c2, m2, s2, -⟩, ⟨c3, m3, s3, -⟩⟩ := h
  exact ⟨Ch.trans (Ch.trans (c1.mono (by decide) (by decide) (fun _ w => w)) (c2.mono (by decide) (by decide) (fun _ w => w))) (c3.mono (by decide) (by decide) (fun _ w => w)), by omega, by omega⟩
theorem Rdr.k (h : Rdr x r m) (h82 : 82 ≤ mC r) {a j : Nat} (hm : msk x a j = true) : aI m a j = aI r a j := by
  obtain ⟨r1, r2, ⟨c1, m1, s1, k1⟩, ⟨c2, m2, s2, k2⟩, ⟨c3, m3, s3, q1, q2, q3, q4, q5⟩⟩ := h
  have n3 : a ∉ 14 :: RiA → aI m a j = aI r2 a j := fun hn => by
    by_cases z : a < mC r2
    · rw [c3.ai hn (fun w => w) z]
    · exfalso
      unfold msk at hm
      grind
  have n2 : a ∉ [8, 9, 10, 11, 13, 35] → aI r2 a j = aI r1 a j := fun hn => by
    by_cases z : a < mC r1
    · rw [c2.ai hn (fun w => w) z]
    · exfalso
      unfold msk at hm
      grind
  have n1 : a ∉ [2, 3, 4, 5, 6, 14] → aI r1 a j = aI r a j := fun hn => by
    by_cases z : a < mC r
    · rw [c1.ai hn (fun w => w) z]
    · exfalso
      unfold msk at hm
      grind
  unfold RiA at n3
  simp only [List.mem_cons, List.not_mem_nil, or_false] at n1 n2 n3
  unfold msk at hm
  by_cases h8 : a < 8
  · rw [if_pos h8] at hm; cases hm
  · rw [if_neg h8] at hm
    by_cases h14 : a ≤ 14
    · rw [if_pos h14] at hm
      have hj := of_decide_eq_true hm
      by_cases z : a = 14
      · subst z
        rw [q5 j (by omega), n2 (by omega), k1 j (by omega)]
      · rw [n3 (by omega), k2 a j (by omega) (by omega) (by omega), n1 (by omega)]
    · rw [if_neg h14] at hm
      by_cases h25 : a ≤ 25
      · rw [if_pos h25] at hm
        have hj := of_decide_eq_true hm
        rw [q3 a j (by omega) (by omega) (by omega), n2 (by omega), n1 (by omega)]
      · rw [if_neg h25] at hm
        by_cases h26 : a = 26
        · rw [if_pos h26] at hm
          have hj := of_decide_eq_true hm
          subst h26
          rw [q4 j (by omega), n2 (by omega), n1 (by omega)]
        · rw [if_neg h26] at hm
          by_cases h32 : a ≤ 32
          · rw [if_pos h32] at hm
            have hj := of_decide_eq_true hm
            rw [q2 j (by omega) a (by omega) (by omega), n2 (by omega), n1 (by omega)]
          · rw [if_neg h32] at hm
            by_cases h34 : a ≤ 34
            · rw [if_pos h34] at hm
              have hj := of_decide_eq_true hm
              have z : a = 33 ∨ a = 34 := by omega
              rcases z with z | z
              · subst z
                rw [(q1 j (by omega)).1, n2 (by omega), n1 (by omega)]
              · subst z
                rw [(q1 j (by omega)).2, n2 (by omega), n1 (by omega)]
            · rw [if_neg h34] at hm
              have hj := of_decide_eq_true hm
              rw [n3 (by omega), n2 (by omega), n1 (by omega)]
theorem Rdr.dat_ (h : Rdr x r m) (h82 : 82 ≤ mC r) (hx : mI r 1554 0 = nj x) (hx2 : x ≤ 24) : dat m = dat r := by
  have c := h.ch.1
  refine dat_eq (c.i (by decide) (by omega)) (c.i (by decide) (by omega)) fun a j hm => ?_
  rw [hx, ix_nj (by omega)] at hm
  exact h.k h82 hm
theorem Rdp.lk (h : Rdp p b) (T : Top p) (L : Lk fa ta ia sa ca od p D) : Lk fa ta ia sa ca od b D := by
  obtain ⟨a, h1, h2⟩ := h
  exact (L.Ch T (h1.mono (fun _ w => w) (fun _ w => w) (fun _ w => w.elim)) (by decide) (by decide)).kiz (T.Ch h1) h2
theorem Rdp.sc (h : Rdp p b) (T : Top p) (L : Lk fa ta ia sa ca od p D) (hS : Sc ta p D) : Sc ta b D :=
  hS.Ch L.2.1 T h.ch (fun f hf => by rcases hf with rfl | rfl | rfl <;> decide) (fun a ha => by simp only [List.mem_cons, List.not_mem_nil, or_false]; omega) ⟨nil_no, fun _ _ => nil_no⟩
/-- nothing was told -/
theorem core_bad {p' r' : Mem} (C : Core nc p r) (hx : (dat r).2.1 = x) (Rp : Rdp p b) (Rr : Rdr x r m) (c : Ch [771, 641, 1415, 773, 774] [] nil b p') (e771 : mI p' 771 22 = nj nc) (c' : Ch [1553, 1551, 1552] [] nil m r') (hC : mC r' = mC m) : Core nc p' r' ∧ dat r' = dat r := by
  obtain ⟨T, h82, W1, W2, e1, e2, e3, e4, e5, fa, ta, ia, sa, ca, od, L, hSc⟩ := C
  rw [hx] at e2
  have cp := Rp.ch
  obtain ⟨cr, hm, -⟩ := Rr.ch
  have Tb := T.Ch cp
  have d1 : dat m = dat r := Rr.dat_ h82 e2 (by have := W1.1; omega)
  have d2 : dat r' = dat r := (dat_Ch c' (by omega) (by decide) (by decide)).trans d1
  have L2 := Rp.lk T L
  have S2 := Rp.sc T L hSc
  have T1 := Tb.1
  have i : ∀ f, f ∉ RrF → f ∉ [1553, 1551, 1552] → mI r' f 0 = mI r f 0 := fun f f1 f2 => by rw [c'.i f2 (by omega), cr.i f1 (by omega)]
  refine ⟨⟨Tb.Ch c, by omega, by rw [d2]; exact W1, by rw [d2]; exact W2, by rw [d2, i 1601 (by decide) (by decide)]; exact e1, by rw [d2, hx, i 1554 (by decide) (by decide)]; exact e2, e3, e771, by rw [i 1584 (by decide) (by decide)]; exact e5, fa, ta, ia, sa, ca, od, ?_, ?_⟩, d2⟩
  · rw [d2]
    exact L2.Ch Tb (c.mono (fun _ w => w) (fun _ w => w) (fun _ w => w.elim)) (by decide) (by decide)
  · rw [d2]
    exact S2.Ch L2.2.1 Tb c (fun f hf => by rcases hf with rfl | rfl | rfl <;> decide) (fun a ha => List.not_mem_nil) ⟨nil_no, fun _ _ => nil_no⟩
end Fr
/-- how read ends with a FAULT -/
def Bd (nc : Nat) (w : Int32) (b m : Mem) : Prop := ∃ v p' r', P_read_60 w b = some (v, p') ∧ R_read_168 m = some (v, r') ∧ Ch [771, 641, 1415, 773, 774] [] nil b p' ∧ mC p' = mC b ∧ mS p' = mS b ∧ mI p' 771 22 = nj nc ∧ mI p' 641 16 = 0 ∧ mI p' 1415 0 = mI r' 1553 0 ∧ Ch [1553, 1551, 1552] [] nil m r' ∧ mC r' = mC m ∧ mS r' = mS m
section Ba
variable {b m : Mem} {nc c q : Nat}
/-- what is written at the end, from the class as it stands then -/
theorem bad_end {b0 b m : Mem} {w : Int32} {r' : Mem} (h67 : P_Parser_finish w b0 = P_Parser_finish_67 b) (c0 : Ch [773, 774] [] nil b0 b) (hC : mC b = mC b0) (hS : mS b = mS b0) (h772 : mI b 772 22 = nj nc) (hR : R_read_168 m = some (mI b 773 22, r')) (h53 : mI r' 1553 0 = mI b 774 22) (cr : Ch [1553, 1551, 1552] [] nil m r') (hCr : mC r' = mC m) (hSr : mS r' = mS m) : Bd nc w b0 m := by
  refine ⟨mI b 773 22, sI (sI (sI b 771 22 (nj nc)) 641 16 0) 1415 0 (mI b 774 22), r', ?_, hR, (((c0.mono (by decide) (fun _ w => w) (fun _ w => w)).sI (by decide)).sI (by decide)).sI (by decide), by rw [k_mC_sI, k_mC_sI, k_mC_sI]; exact hC, by rw [k_mS_sI, k_mS_sI, k_mS_sI]; exact hS, by rw [k_mI_sI (by omega), k_mI_sI (by omega), k_mI_sI_e, up1_ap, if_pos rfl], by rw [k_mI_sI (by omega), k_mI_sI_e, up1_ap, if_pos rfl], by rw [k_mI_sI_e, up1_ap, if_pos rfl, h53], cr, hCr, hSr⟩
  unfold P_read_60 P_read_101
  rw [h67]
  unfold P_Parser_finish_67
  rw [vb_e, bn_s, vb_e, vb_e, if_pos rfl, h772]
  rw [k_mI_sI (show 774 ≠ 641 by omega), k_mI_sI (show 774 ≠ 771 by omega)]
  rw [k_mI_sI (show 773 ≠ 1415 by omega), k_mI_sI (show 773 ≠ 641 by omega), k_mI_sI (show 773 ≠ 771 by omega)]
theorem bad_fld (h : Fld b m) (h772 : mI b 772 22 = nj nc) : Bd nc 0 b m := by
  obtain ⟨c, q, h1, h2, hc, h3, h4, -⟩ := h
  have hc0 : ¬ nj c = 0 := by
    rcases hc with rfl | rfl <;> decide
  have hcp : ¬ nj c ≤ 0 := by
    rcases hc with rfl | rfl <;> decide
  refine bad_end (b := b) (r' := sI m 1553 0 (nj q)) ?_ Ch.rfl rfl rfl h772 ?_ ?_ (Ch.rfl.sI (by decide)) (by rw [k_mC_sI]) (by rw [k_mS_sI])
  · unfold P_Parser_finish P_Parser_finish_30 P_Parser_finish_56
    rw [if_pos rfl, if_pos rfl, if_pos rfl]
  · unfold R_read_168 R_read_200 R_read_230
    rw [h3, if_neg hc0, if_neg hcp, h4, vb_e, k_mI_sI (by omega), h3, if_neg hcp, h1]
  · rw [k_mI_sI_e, up1_ap, if_pos rfl, h2]
theorem bad_late (h772 : mI b 772 22 = nj nc) (h49 : mI m 1549 0 = 0) (hne : mI m 1551 0 ≠ 0) (hpos : 0 < mI m 1551 0) (h776 : mI b 776 22 = mI m 1551 0) (h777 : mI b 777 22 = mI m 1552 0) : Bd nc 1 b m := by
  have hle : ¬ mI m 1551 0 ≤ 0 := Int32.not_le.mpr hpos
  have e73 : mI (sI (sI b 773 22 (mI b 776 22)) 774 22 (mI b 777 22)) 773 22 = mI m 1551 0 := by rw [k_mI_sI (by omega), k_mI_sI_e, up1_ap, if_pos rfl, h776]
  have e74 : mI (sI (sI b 773 22 (mI b 776 22)) 774 22 (mI b 777 22)) 774 22 = mI m 1552 0 := by rw [k_mI_sI_e, up1_ap, if_pos rfl, h777]
  refine bad_end (b := sI (sI b 773 22 (mI b 776 22)) 774 22 (mI b 777 22)) (r' := sI m 1553 0 (mI m 1552 0)) ?_ ((Ch.rfl.sI (by decide)).sI (by decide)) (by rw [k_mC_sI, k_mC_sI]) (by rw [k_mS_sI, k_mS_sI]) (by rw [k_mI_sI (by omega), k_mI_sI (by omega)]; exact h772) ?_ ?_ (Ch.rfl.sI (by decide)) (by rw [k_mC_sI]) (by rw [k_mS_sI])
  · unfold P_Parser_finish P_Parser_finish_56
    rw [if_neg (show ¬ (1 : Int32) = 0 by decide), if_neg (by rw [h776]; exact hne), vb_e, vb_e, k_mI_sI (by omega), if_neg (show ¬ (1 : Int32) = 0 by decide), e73, if_neg hne]
  · unfold R_read_168 R_read_200 R_read_230
    rw [if_pos h49, if_neg hne, h49, if_pos (show (0 : Int32) ≤ 0 by decide), if_neg hle, vb_e, k_mI_sI (by omega), h49, if_pos (show (0 : Int32) ≤ 0 by decide), k_mI_sI (by omega), if_neg hle, e73]
  · rw [k_mI_sI_e, up1_ap, if_pos rfl, e74]
theorem bad_full {k : Nat} (h772 : mI b 772 22 = nj nc) (h49 : mI m 1549 0 = 0) (h51 : mI m 1551 0 = 0) (h776 : mI b 776 22 = 0) (h778 : mI b 778 22 = nj q) (hq : q ≤ 2000) (h87 : mI m 1587 0 = nj k) (hk : k ≤ 500) (h4 : aI m 4 k = nj q) : Bd nc 1 b m := by
  have e73 : mI (sI (sI b 773 22 6) 774 22 (mI b 778 22)) 773 22 = 6 := by rw [k_mI_sI (by omega), k_mI_sI_e, up1_ap, if_pos rfl]
  have e74 : mI (sI (sI b 773 22 6) 774 22 (mI b 778 22)) 774 22 = nj q := by rw [k_mI_sI_e, up1_ap, if_pos rfl, h778]
  have hw : R_wrong 6 (nj k) m = some ((), wrR 6 q m) := wrong_e 6 h49 hk h4 hq (fun z => absurd h51 z)
  have ew : wrR 6 q m = sI (sI m 1551 0 (nj 6)) 1552 0 (nj q) := by unfold wrR; rw [if_pos h51]
  have n6 : ¬ nj 6 ≤ 0 := by decide
  refine bad_end (b := sI (sI b 773 22 6) 774 22 (mI b 778 22)) (r' := sI (sI (sI m 1551 0 (nj 6)) 1552 0 (nj q)) 1553 0 (nj q)) ?_ ((Ch.rfl.sI (by decide)).sI (by decide)) (by rw [k_mC_sI, k_mC_sI]) (by rw [k_mS_sI, k_mS_sI]) (by rw [k_mI_sI (by omega), k_mI_sI (by omega)]; exact h772) ?_ ?_ (((Ch.rfl.sI (by decide)).sI (by decide)).sI (by decide)) (by rw [k_mC_sI, k_mC_sI, k_mC_sI]) (by rw [k_mS_sI, k_mS_sI, k_mS_sI])
  · unfold P_Parser_finish P_Parser_finish_30 P_Parser_finish_56
    rw [if_neg (show ¬ (1 : Int32) = 0 by decide), if_pos h776, if_neg (show ¬ (1 : Int32) = 0 by decide), if_neg (by rw [h778, nj_ne_m1 (by omega)]; exact id), vb_e, vb_e, k_mI_sI (by omega), if_neg (show ¬ (1 : Int32) = 0 by decide), e73, if_neg (show ¬ (6 : Int32) = 0 by decide)]
  · have e49 : mI (sI (sI m 1551 0 (nj 6)) 1552 0 (nj q)) 1549 0 = 0 := by rw [k_mI_sI (by omega), k_mI_sI (by omega)]; exact h49
    have e51 : mI (sI (sI m 1551 0 (nj 6)) 1552 0 (nj q)) 1551 0 = nj 6 := by rw [k_mI_sI (by omega), k_mI_sI_e, up1_ap, if_pos rfl]
    have e52 : mI (sI (sI m 1551 0 (nj 6)) 1552 0 (nj q)) 1552 0 = nj q := by rw [k_mI_sI_e, up1_ap, if_pos rfl]
    unfold R_read_168
    rw [if_pos h49, if_pos h51, h87, if_neg (by rw [nj_ne_m1 (by omega)]; exact id), hw, bn_s, ew]
    unfold R_read_200 R_read_230
    rw [e49, if_pos (show (0 : Int32) ≤ 0 by decide), e51, if_neg n6, e52, vb_e, k_mI_sI (by omega), e49, if_pos (show (0 : Int32) ≤ 0 by decide), k_mI_sI (by omega), e51, if_neg n6, e73]
    rfl
  · rw [k_mI_sI_e, up1_ap, if_pos rfl, e74]
end Ba
