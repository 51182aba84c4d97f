/-! Layer C: both sides reckon weeks -/
def loB : List Nat := 72 :: loA
/-- PEOPLE are alike -/
def LPp (pe : Nat) (p r : Mem) : Prop := ∀ who, who < pe → ∃ f, f < 8 ∧ aI p 8 who = nj f ∧ (aI r 39 who = nj f ∧ nj who < mI r 1595 0) ∧ aI p 9 who = aI r 40 who ∧ aI p 10 who = aI r 41 who
def JJ (fa ta ia sa ca : Nat → Nat) (od : List Nat) (D : Dt) (sup : Sup) (pe w : Nat) (p r : Mem) : Prop := PS fa ta ia sa ca od D sup w p ∧ RB D sup r ∧ LC D sup r ∧ LPp pe p r
/-- both, since p0 and r0, after at most n walks more -/
def JB (fa ta ia sa ca : Nat → Nat) (od : List Nat) (D : Dt) (sup : Sup) (pe w0 : Nat) (p0 r0 : Mem) (n : Nat) (p r : Mem) : Prop := ∃ w1, w1 ≤ w0 + n ∧ JJ fa ta ia sa ca od D sup pe w1 p r ∧ Ch qF qA (dyT ta D.2.1) p0 p ∧ Ch loF loB nil r0 r ∧ mC p = mC p0 ∧ mS p = mS p0 ∧ mC r = mC r0
def Askm {α : Type} (nc w n : Nat) (p r : Mem) (x y : Option (α × Mem)) : Prop := ∃ v p' r', x = some (v, p') ∧ y = some (v, r') ∧ Bs nc p' r' ∧ LC (dat r') none r' ∧ Ch qF qA hi51 p p' ∧ Ch loF loB nil r r' ∧ mC p' = mC p ∧ mS p' = mS p ∧ mC r' = mC r ∧ ∃ w', w' ≤ w + n ∧ mI p' 1157 25 = nj w'
section Js
variable {fa ta ia sa ca : Nat → Nat} {od : List Nat} {p r p0 r0 : Mem} {D : Dt} {nc pe w w0 n : Nat} {sup : Sup}
theorem JB.mono {m : Nat} (h : JB fa ta ia sa ca od D sup pe w0 p0 r0 n p r) (hm : n ≤ m) : JB fa ta ia sa ca od D sup pe w0 p0 r0 m p r := by
  obtain ⟨w1, h1, h2⟩ := h
  exact ⟨w1, by omega, h2⟩
theorem JB.week (W : WText D nc) (Wf : WFact D nc) (Wi : WItems D nc) (hn60 : nc ≤ 60) (hg : WgD D) (hpe : pe ≤ 10) (h : JB fa ta ia sa ca od D sup pe w0 p0 r0 n p r) {who wk kn : Nat} (hwho : who < pe) (hwk : wk < 20) (hkn : kn ≤ D.2.2) (hw : w0 + n + 1344 < 2147483647) :
    ∃ v p' r', v ≤ 336002880 ∧ P_Reckoning_weekPay (nj who) (nj wk) (nj kn) p = some (nj v, p') ∧ R_payOf (nj who) (nj wk) (nj kn) r = some (nl v, r') ∧ JB fa ta ia sa ca od D sup pe w0 p0 r0 (n + 1344) p' r' := by
  obtain ⟨w1, h1, ⟨P, HB, HC, HL⟩, c1, c2, e1, e2, e3⟩ := h
  have T1 := P.2.1.1
  have C2 := HB.2.1
  obtain ⟨f, hf, q1, q2, q3, q4⟩ := HL who hwho
  obtain ⟨p', w2, a1, a2, a3, a4, a5, a6⟩ := P_weekPay_e (X := (f, 0, kn, nj who, aI r 41 who, aI r 40 who)) W Wf Wi hn60 hg hf hkn hwk (show who < 10 by omega) rfl q1 q3 q4 (by omega) P
  obtain ⟨r', b1, b2, b3, b4, b5⟩ := R_payOf_e (X := (f, 0, kn, nj who, aI r 41 who, aI r 40 who)) W Wf Wi hn60 hg hf hkn hwk (show who < 10 by omega) rfl HB HC q2 rfl rfl
  have hb : pyW D (f, 0, kn, nj who, aI r 41 who, aI r 40 who) sup wk ≤ 336002880 := py_bd (X := (f, 0, kn, nj who, aI r 41 who, aI r 40 who)) W Wf Wi hn60 hg hkn hwk List.nodup_range (fun k hk => List.mem_range.mp hk)
  have hw2 : w2 ≤ w0 + (n + 1344) := Nat.le_trans a3 (Nat.le_trans (Nat.add_le_add_right h1 1344) (Nat.le_of_eq (Nat.add_assoc _ _ _)))
  refine ⟨pyW D (f, 0, kn, nj who, aI r 41 who, aI r 40 who) sup wk, p', r', hb, a1, b1, w2, hw2, ⟨a2, b2, b3, fun x hx => ?_⟩, c1.trans a4, c2.trans b4, a5.trans e1, a6.trans e2, b5.trans e3⟩
  clear hb a1 b1
  have nd : ∀ a, a < 51 → ¬ dyT ta D.2.1 a := fun a ha => dyT_lo P.1 (by omega)
  obtain ⟨f', hf', y1, y2, y3, y4⟩ := HL x hx
  refine ⟨f', hf', ?_, ?_, ?_, ?_⟩
  · rw [a4.ai (by decide) (nd _ (by omega)) (by omega)]; exact y1
  · exact ⟨by rw [b4.ai (by decide) nil_no (by omega)]; exact y2.1, by rw [b4.i (by decide) (by omega)]; exact y2.2⟩
  · rw [a4.ai (by decide) (nd _ (by omega)) (by omega), b4.ai (by decide) nil_no (by omega)]; exact y3
  · rw [a4.ai (by decide) (nd _ (by omega)) (by omega), b4.ai (by decide) nil_no (by omega)]; exact y4
theorem Bs_of2 {p' r' : Mem} (h : Bs nc p r) (P : PS fa ta ia sa ca od (dat r) none w p') (c : Ch qF qA hi51 p p') (R : RB (dat r) none r') (cr : Ch loF loB nil r r') (hC : mC r' = mC r) : Bs nc p' r' ∧ dat r' = dat r := by
  obtain ⟨hc, Ld, hp, Wi, hB, hT⟩ := h
  have T1 := hc.1.1
  have C2 := hc.2.1
  obtain ⟨k1, k2⟩ := hc.R cr hC (by decide) (by decide) (by decide)
  obtain ⟨T, -, W, Wf, e1, e2, hn60, e4, e5, -⟩ := k1
  obtain ⟨P1, P2, P3, P4, P5, P6, P7, P8, P9⟩ := P
  have L2 : Land p' r' := (Ld.P c T1 (by decide) (by decide) (fun a h => h)).R cr C2 (by decide) (by decide)
  refine ⟨⟨⟨P2, by omega, W, Wf, e1, e2, hn60, ?_, e5, fa, ta, ia, sa, ca, od, by rw [k2]; exact P1, ?_⟩, L2, P3, by rw [k2]; exact Wi, by rw [k2]; exact R.2.2.2.1, R.2.2.2.2.1 rfl⟩, k2⟩
  · rw [c.i (by decide) (by omega)]; exact e4
  · rw [k2]
    exact ⟨P5, fun k hk hn => P6 k hk (decide_eq_false hn), fun k j hk => by rw [P4.1]; exact P4.2 k j hk, P7.1⟩
theorem Bs.LP_ (h : Bs nc p r) : ∃ pe, pe ≤ 10 ∧ mI p 386 5 = nj pe ∧ mI r 1595 0 = nj pe ∧ LPp pe p r := by
  obtain ⟨to, fi, pe, h1, h2, h3, g1, g2, g3, g4, g5, g6, a1, a2, a3, a4, a5, a6, a7, b1, b2, b3, -⟩ := h.2.1
  refine ⟨pe, h3, g5, g6, fun who hwho => ?_⟩
  obtain ⟨f, hf, ef⟩ := b2 who hwho
  exact ⟨f, by omega, by rw [a3]; exact ef, ⟨ef, by rw [g6, nj_lt (by omega) (by omega)]; exact hwho⟩, by rw [a4], by rw [a5]⟩
theorem Bs.Wg_ (h : Bs nc p r) : WgD (dat r) := fun j hj => by
  obtain ⟨to, fi, pe, h1, h2, h3, g1, g2, g3, g4, g5, g6, a1, a2, a3, a4, a5, a6, a7, b1, b2, b3, b4, -⟩ := h.2.1
  rw [dat_43]
  exact b4 j hj
theorem JB.ask {α : Type} {x y : Option (α × Mem)} {v : α} {p' r' : Mem} (h : Bs nc p r) (J : JB fa ta ia sa ca od (dat r) none pe w p r n p' r') (hx : x = some (v, p')) (hy : y = some (v, r')) : Askm nc w n p r x y := by
  obtain ⟨w1, h1, ⟨P, HB, HC, HL⟩, c1, c2, e1, e2, e3⟩ := J
  have c1' : Ch qF qA hi51 p p' := c1.mono (fun _ h => h) (fun _ h => h) P.h51
  obtain ⟨B, e⟩ := Bs_of2 h P c1' HB c2 e3
  exact ⟨v, p', r', hx, hy, B, by rw [e]; exact HC, c1', c2, e1, e2, e3, w1, h1, P.2.2.2.1.1⟩
theorem Askm.no {α : Type} {x y : Option (α × Mem)} {v : α} (h : Bs nc p r) (hL : LC (dat r) none r) (hw : mI p 1157 25 = nj w) (hx : x = some (v, p)) (hy : y = some (v, r)) : Askm nc w n p r x y := ⟨v, p, r, hx, hy, h, hL, Ch.rfl, Ch.rfl, rfl, rfl, rfl, w, by omega, hw⟩
/-- the beginning of a question over weeks -/
theorem Bs.JB_ (h : Bs nc p r) (hL : LC (dat r) none r) (hw : mI p 1157 25 = nj w) : ∃ fa ta ia sa ca od pe, pe ≤ 10 ∧ mI p 386 5 = nj pe ∧ mI r 1595 0 = nj pe ∧ JB fa ta ia sa ca od (dat r) none pe w p r 0 p r := by
  obtain ⟨fa, ta, ia, sa, ca, od, P⟩ := h.PS_ hw
  obtain ⟨pe, h1, h2, h3, h4⟩ := h.LP_
  exact ⟨fa, ta, ia, sa, ca, od, pe, h1, h2, h3, w, by omega, ⟨P, h.RB_, hL, h4⟩, Ch.rfl, Ch.rfl, rfl, rfl, rfl⟩
theorem R_isWeek_e (h : Bs nc p r) (x1 x2 x3 : Int32) : R_isWeek x1 x2 x3 r = some (tI (decide ((0 ≤ x1 ∧ x1 < mI r 1595 0) ∧ (0 ≤ x2 ∧ x2 ≤ 19) ∧ (0 ≤ x3 ∧ x3 ≤ nj (dat r).2.2))), r) := by
  have k2 := R_isKnown_e h.1 x3
  unfold R_isWeek
  by_cases c1 : 0 ≤ x1 ∧ x1 < mI r 1595 0 <;> by_cases c2 : 0 ≤ x2 ∧ x2 ≤ 19 <;> by_cases c4 : 0 ≤ x3 ∧ x3 ≤ nj (dat r).2.2 <;> simp [R_isPerson_e, R_in_e, k2, bn_s, bp_s, tI, c1, c2, c4]
theorem P_isWeekOf_e (h : Bs nc p r) (x1 x2 x3 : Int32) : P_isWeekOf x1 x2 x3 p = some (tI (decide ((0 ≤ x1 ∧ x1 < mI r 1595 0) ∧ (0 ≤ x2 ∧ x2 ≤ 19) ∧ (0 ≤ x3 ∧ x3 ≤ nj (dat r).2.2))), p) := by
  have k1 := P_canKnow_e h.1 x3
  unfold P_isWeekOf
  by_cases c1 : 0 ≤ x1 ∧ x1 < mI r 1595 0 <;> by_cases c2 : 0 ≤ x2 ∧ x2 ≤ 19 <;> by_cases c4 : 0 ≤ x3 ∧ x3 ≤ nj (dat r).2.2 <;> simp [P_hasPerson_e h.2.1, P_isWeek_e, k1, bn_s, bp_s, tI, c1, c2, c4]
theorem st_pay (h : Bs nc p r) (hL : LC (dat r) none r) (hw : mI p 1157 25 = nj w) (hw1 : w + 1344 < 2147483647) (x1 x2 x3 : Int32) : Askm nc w 1344 p r (P_pay x1 x2 x3 p) (R_pay x1 x2 x3 r) := by
  have W := h.1.2.2.1
  have h160 := W.2.1
  have e1 := P_isWeekOf_e h x1 x2 x3
  have e2 := R_isWeek_e h x1 x2 x3
  unfold P_pay R_pay
  rw [e1, e2, bn_s, bn_s]
  by_cases q : (0 ≤ x1 ∧ x1 < mI r 1595 0) ∧ (0 ≤ x2 ∧ x2 ≤ 19) ∧ (0 ≤ x3 ∧ x3 ≤ nj (dat r).2.2)
  · rw [decide_eq_true q, if_neg (show ¬ tI true = 0 by decide), if_neg (show ¬ tI true = 0 by decide)]
    obtain ⟨c1, c2, c3⟩ := q
    obtain ⟨fa, ta, ia, sa, ca, od, pe, hpe, g1, g2, J⟩ := h.JB_ hL hw
    rw [g2] at c1
    obtain ⟨who, hwho, rfl⟩ := nj_in' (by omega) c1
    obtain ⟨wk, hwk, rfl⟩ := nj_in (n := 19) (by omega) c2
    obtain ⟨kn, hkn, rfl⟩ := nj_in (by omega) c3
    obtain ⟨v, p', r', b1, b2, b3, b4⟩ := J.week W h.1.2.2.2.1 h.2.2.2.1 h.1.2.2.2.2.2.2.1 h.Wg_ hpe hwho (show wk < 20 by omega) hkn (by omega)
    refine (b4.mono (by omega)).ask (v := nj v) h ?_ ?_
    · rw [b2, bn_s]
    · rw [b3, bn_s, nl_32 (by omega)]
  · rw [decide_eq_false q, if_pos (by rfl), if_pos (by rfl)]
    exact Askm.no h hL hw rfl rfl
/-- owed: the reference's sum of payments -/
theorem pay_bd (Wf : WFact D nc) (h160 : D.2.2 ≤ 160) {a b : Int32} : ∀ n, n ≤ D.2.2 → -99999 * (n : Int) ≤ (payS D a b n).toInt ∧ (payS D a b n).toInt ≤ 99999 * (n : Int)
  | 0, _ => by
    have : (payS D a b 0).toInt = 0 := rfl
    rw [this]
    omega
  | n + 1, hn => by
    obtain ⟨i1, i2⟩ := pay_bd Wf h160 (a := a) (b := b) n (by omega)
    have hs : payS D a b (n + 1) = payS D a b n + (if D.1 44 n = 9 ∧ D.1 45 n = a ∧ D.1 46 n = b then D.1 48 n else 0) := rfl
    rw [hs]
    by_cases c : D.1 44 n = 9 ∧ D.1 45 n = a ∧ D.1 46 n = b
    · rw [if_pos c]
      obtain ⟨s, s1, s2, -, -, -, -, -, s9, -⟩ := Wf n (by omega)
      obtain ⟨x, y, -, -, -, -, y1, y2⟩ := s9 ((nj_inj (b := 9) (by omega) (by omega)).mp (s2.symm.trans c.1))
      have z1 : (-99999 : Int) ≤ (D.1 48 n).toInt := Int32.le_iff_toInt_le.mp y1
      have z2 : (D.1 48 n).toInt ≤ 99999 := Int32.le_iff_toInt_le.mp y2
      rw [Int32.toInt_add, Int.bmod_eq_of_le (by omega) (by omega)]
      omega
    · rw [if_neg c, Int32.add_zero]
      omega
theorem R_owedOf_12_e (hD : dat r = D) (Wf : WFact D nc) (h160 : D.2.2 ≤ 160) {a b : Int32} {v n : Nat} (hv : v ≤ 336002880) (hn : n ≤ D.2.2) : ∀ (e i fu : Nat), i + e = n → e < fu → R_owedOf_12 fu a b (nj n) (Int32.toInt64 (nj v - payS D a b i)) (nj i) r = some (Int32.toInt64 (nj v - payS D a b n), r)
  | 0, i, fu + 1, hi, _ => by
    rw [R_owedOf_12.eq_2, if_pos (by rw [nj_le (by omega) (by omega)]; omega), show i = n by omega]
  | e + 1, i, fu + 1, hi, hf => by
    have ih := R_owedOf_12_e hD Wf h160 (a := a) (b := b) hv hn e (i + 1) fu (by omega) (by omega)
    have hs : payS D a b (i + 1) = payS D a b i + (if D.1 44 i = 9 ∧ D.1 45 i = a ∧ D.1 46 i = b then D.1 48 i else 0) := rfl
    have g1 : ∀ {β : Type} (c : Option β), gd (inb (nj i) 160) c = c := fun c => by rw [inb_nj (by omega), gd_t (decide_eq_true (by omega))]
    rw [R_owedOf_12.eq_2, if_neg (by rw [nj_le (by omega) (by omega)]; omega)]
    unfold R_owedOf_65
    simp only [g1, vb_e, nj_add_l, ix_nj (show i < 2147483648 by omega)]
    rw [← dat_44 (r := r) (x := 44) (by omega), ← dat_44 (r := r) (x := 45) (by omega), ← dat_44 (r := r) (x := 46) (by omega), ← dat_44 (r := r) (x := 48) (by omega), hD]
    rw [hs] at ih
    by_cases c : D.1 44 i = 9 ∧ D.1 45 i = a ∧ D.1 46 i = b
    · obtain ⟨s, s1, s2, -, -, -, -, -, s9, -⟩ := Wf i (by omega)
      obtain ⟨x, y, -, -, -, -, y1, y2⟩ := s9 ((nj_inj (b := 9) (by omega) (by omega)).mp (s2.symm.trans c.1))
      have z1 : (-99999 : Int) ≤ (D.1 48 i).toInt := Int32.le_iff_toInt_le.mp y1
      have z2 : (D.1 48 i).toInt ≤ 99999 := Int32.le_iff_toInt_le.mp y2
      obtain ⟨i1, i2⟩ := pay_bd Wf h160 (a := a) (b := b) i (by omega)
      have he : Int32.toInt64 (nj v - payS D a b i) - Int32.toInt64 (D.1 48 i) = Int32.toInt64 (nj v - (payS D a b i + D.1 48 i)) := by
        apply Int64.toInt.inj
        have h1 : (nj v - payS D a b i).toInt = (v : Int) - (payS D a b i).toInt := by rw [Int32.toInt_sub, nj_int (by omega), Int.bmod_eq_of_le (by omega) (by omega)]
        have h2 : (payS D a b i + D.1 48 i).toInt = (payS D a b i).toInt + (D.1 48 i).toInt := by rw [Int32.toInt_add, Int.bmod_eq_of_le (by omega) (by omega)]
        have h3 : (nj v - (payS D a b i + D.1 48 i)).toInt = (v : Int) - ((payS D a b i).toInt + (D.1 48 i).toInt) := by rw [Int32.toInt_sub, nj_int (by omega), h2, Int.bmod_eq_of_le (by omega) (by omega)]
        rw [Int64.toInt_sub, Int32.toInt_toInt64, Int32.toInt_toInt64, Int32.toInt_toInt64, h1, h3, Int.bmod_eq_of_le (by omega) (by omega)]
        omega
      rw [if_pos c] at ih
      rw [if_pos c.1, if_pos c.2.1, if_pos c.2.2, he]
      exact ih
    · rw [if_neg c, Int32.add_zero] at ih
      by_cases c1 : D.1 44 i = 9
      · rw [if_pos c1]
        by_cases c2 : D.1 45 i = a
        · rw [if_pos c2, if_neg (fun z => c ⟨c1, c2, z⟩)]; exact ih
        · rw [if_neg c2]; exact ih
      · rw [if_neg c1]; exact ih
/-- what is owed for a week, on both sides -/
theorem JB.owed (W : WText D nc) (Wf : WFact D nc) (Wi : WItems D nc) (hn60 : nc ≤ 60) (hg : WgD D) (hpe : pe ≤ 10) (h : JB fa ta ia sa ca od D sup pe w0 p0 r0 n p r) {who wk kn : Nat} (hwho : who < pe) (hwk : wk < 20) (hkn : kn ≤ D.2.2) (hw : w0 + n + 1344 < 2147483647) :
    ∃ v p' r', v ≤ 336002880 ∧ P_Reckoning_weekPay (nj who) (nj wk) (nj kn) p = some (nj v, p') ∧ P_Ledger_payments (nj who) (nj wk) (nj kn) p' = some (payS D (nj who) (nj wk) kn, p') ∧ R_owedOf (nj who) (nj wk) (nj kn) r = some (Int32.toInt64 (nj v - payS D (nj who) (nj wk) kn), r') ∧ JB fa ta ia sa ca od D sup pe w0 p0 r0 (n + 1344) p' r' := by
  have h160 := W.2.1
  obtain ⟨v, p', r', a1, a2, a3, a4⟩ := h.week W Wf Wi hn60 hg hpe hwho hwk hkn hw
  obtain ⟨w1, h1, ⟨P, HB, HC, HL⟩, -⟩ := id a4
  refine ⟨v, p', r', a1, a2, P_payments_e P.1.1 h160 hkn, ?_, a4⟩
  have := R_owedOf_12_e (a := nj who) (b := nj wk) HB.1 Wf h160 a1 hkn kn 0 FU (by omega) (by unfold FU; omega)
  unfold R_owedOf
  rw [a3, bn_s]
  have e0 : Int32.toInt64 (nj v - payS D (nj who) (nj wk) 0) = nl v := by
    show Int32.toInt64 (nj v - 0) = nl v
    rw [Int32.sub_zero, nj_64 (by omega)]
  rw [e0] at this
  exact this
theorem st_owed (h : Bs nc p r) (hL : LC (dat r) none r) (hw : mI p 1157 25 = nj w) (hw1 : w + 1344 < 2147483647) (x1 x2 x3 : Int32) : Askm nc w 1344 p r (P_owed x1 x2 x3 p) (R_owed x1 x2 x3 r) := by
  have W := h.1.2.2.1
  have h160 := W.2.1
  have e1 := P_isWeekOf_e h x1 x2 x3
  have e2 := R_isWeek_e h x1 x2 x3
  unfold P_owed R_owed
  rw [e1, e2, bn_s, bn_s]
  by_cases q : (0 ≤ x1 ∧ x1 < mI r 1595 0) ∧ (0 ≤ x2 ∧ x2 ≤ 19) ∧ (0 ≤ x3 ∧ x3 ≤ nj (dat r).2.2)
  · rw [decide_eq_true q, if_neg (show ¬ tI true = 0 by decide), if_neg (show ¬ tI true = 0 by decide)]
    obtain ⟨c1, c2, c3⟩ := q
    obtain ⟨fa, ta, ia, sa, ca, od, pe, hpe, g1, g2, J⟩ := h.JB_ hL hw
    rw [g2] at c1
    obtain ⟨who, hwho, rfl⟩ := nj_in' (by omega) c1
    obtain ⟨wk, hwk, rfl⟩ := nj_in (n := 19) (by omega) c2
    obtain ⟨kn, hkn, rfl⟩ := nj_in (by omega) c3
    obtain ⟨v, p', r', b1, b2, b3, b4, b5⟩ := J.owed W h.1.2.2.2.1 h.2.2.2.1 h.1.2.2.2.2.2.2.1 h.Wg_ hpe hwho (show wk < 20 by omega) hkn (by omega)
    refine (b5.mono (by omega)).ask (v := nj v - payS (dat r) (nj who) (nj wk) kn) h ?_ ?_
    · rw [b2, bn_s, b3, bn_s]
    · rw [b4, bn_s, Int32.toInt32_toInt64]
  · rw [decide_eq_false q, if_pos (by rfl), if_pos (by rfl)]
    exact Askm.no h hL hw rfl rfl
theorem cmp64 {v : Int32} : (0 < lg_cmp (Int32.toInt64 v) 0) = (0 < v) := by
  have hz : (Int32.toInt64 v > 0) = (0 < v) := by
    have h1 : (0 : Int64).toInt < (Int32.toInt64 v).toInt ↔ (0 : Int32).toInt < v.toInt := by rw [Int32.toInt_toInt64]; exact Iff.rfl
    exact propext ⟨fun z => Int32.lt_iff_toInt_lt.mpr (h1.mp (Int64.lt_iff_toInt_lt.mp z)), fun z => Int64.lt_iff_toInt_lt.mpr (h1.mpr (Int32.lt_iff_toInt_lt.mp z))⟩
  unfold lg_cmp
  by_cases q : Int32.toInt64 v > 0
  · rw [if_pos q, ← hz]
    exact propext ⟨fun _ => q, fun _ => by decide⟩
  · rw [if_neg q, ← hz]
    by_cases q2 : Int32.toInt64 v = 0
    · rw [if_pos q2]
      exact propext ⟨fun z => absurd z (by decide), fun z => absurd z q⟩
    · rw [if_neg q2]
      exact propext ⟨fun z => absurd z (by decide), fun z => absurd z q⟩
theorem shorted_end (x : Int64) (p r : Mem) : P_shorted_95 x p = some (jmaxL 0 x, p) ∧ R_shorted_73 x r = some (jmaxL 0 x, r) := by
  refine ⟨rfl, ?_⟩
  unfold R_shorted_73 jmaxL lg_cmp
  by_cases q : x > 0
  · rw [if_pos q, if_pos (by decide), if_neg (Int64.not_lt.mpr (Int64.le_of_lt q))]
  · rw [if_neg q]
    by_cases q2 : x = 0
    · rw [if_pos q2, if_pos (by decide), q2, if_neg (by decide)]
    · have h0 : x < 0 := Int64.lt_of_le_of_ne (Int64.not_lt.mp q) q2
      rw [if_neg q2, if_neg (by decide), if_pos h0]
theorem shorted_e (W : WText D nc) (Wf : WFact D nc) (Wi : WItems D nc) (hn60 : nc ≤ 60) (hg : WgD D) (hpe : pe ≤ 10) {who b kn : Nat} (hwho : who < pe) (hb : b < 20) (hkn : kn ≤ D.2.2) {s : Bool} (hw : w0 + 26880 < 2147483647) : ∀ (e wk fu : Nat) (x : Int64) (p r : Mem) (n : Nat), wk + e = b + 1 → e < fu → n + 1344 * e ≤ 26880 → JB fa ta ia sa ca od D sup pe w0 p0 r0 n p r → ∃ v p' r', P_shorted_33 fu (nj who) (nj b) (tI s) (nj kn) x (nj wk) p = some (v, p') ∧ R_shorted_31 fu (nj who) (nj b) (tI s) (nj kn) x (nj wk) r = some (v, r') ∧ JB fa ta ia sa ca od D sup pe w0 p0 r0 26880 p' r'
  | 0, wk, fu + 1, x, p, r, n, he, _, hn, J => by
    obtain ⟨z1, z2⟩ := shorted_end x p r
    refine ⟨jmaxL 0 x, p, r, ?_, ?_, J.mono (by omega)⟩
    · rw [P_shorted_33.eq_2, if_pos (by rw [nj_lt (by omega) (by omega)]; omega)]; exact z1
    · rw [R_shorted_31.eq_2, if_pos (by rw [nj_lt (by omega) (by omega)]; omega)]; exact z2
  | e + 1, wk, fu + 1, x, p, r, n, he, hf, hn, J => by
    obtain ⟨v, p', r', a1, a2, a3, a4, a5⟩ := J.owed W Wf Wi hn60 hg hpe hwho (show wk < 20 by omega) hkn (by omega)
    have ih := fun y => shorted_e W Wf Wi hn60 hg hpe hwho hb hkn (s := s) hw e (wk + 1) fu y p' r' (n + 1344) (by omega) (by omega) (by omega) a5
    rw [P_shorted_33.eq_2, if_neg (by rw [nj_lt (by omega) (by omega)]; omega), a2, bn_s, a3, bn_s, R_shorted_31.eq_2, if_neg (by rw [nj_lt (by omega) (by omega)]; omega), a4, bn_s]
    unfold P_shorted_86 R_shorted_60 R_shorted_67
    simp only [vb_e, nj_add_l, cmp64]
    generalize nj v - payS D (nj who) (nj wk) kn = o at *
    by_cases q : 0 < o
    · have em : jmax 0 o = o := by unfold jmax; rw [if_pos q]
      rw [if_pos q, em]
      cases s with
      | false => rw [if_pos (by rfl)]; exact ih _
      | true => rw [if_neg (by decide)]; exact ih _
    · have em : jmax 0 o = 0 := by unfold jmax; rw [if_neg q]
      rw [if_neg q, em]
      cases s with
      | false =>
        rw [if_pos (by rfl), if_pos (by rfl)]
        have : x + Int32.toInt64 0 = x := by show x + 0 = x; exact Int64.add_zero x
        rw [this]
        exact ih _
      | true => rw [if_neg (by decide), if_neg (by decide)]; exact ih _
theorem st_shorted (h : Bs nc p r) (hL : LC (dat r) none r) (hw : mI p 1157 25 = nj w) (hw1 : w + 26880 < 2147483647) (x1 x2 x3 : Int32) (s : Bool) (x5 : Int32) : Askm nc w 26880 p r (P_shorted x1 x2 x3 (tI s) x5 p) (R_shorted x1 x2 x3 (tI s) x5 r) := by
  have W := h.1.2.2.1
  have h160 := W.2.1
  have e1 := P_isWeekOf_e h x1 x2 x5
  have e2 := R_isWeek_e h x1 x2 x5
  have n2 : ¬ tI true = 0 := by decide
  unfold P_shorted R_shorted P_shorted_23 R_shorted_21
  rw [e1, e2, bn_s, bn_s, P_isWeek_e, bp_s, R_in_e, bp_s]
  by_cases q : (0 ≤ x1 ∧ x1 < mI r 1595 0) ∧ (0 ≤ x2 ∧ x2 ≤ 19) ∧ (0 ≤ x5 ∧ x5 ≤ nj (dat r).2.2)
  · rw [decide_eq_true q, if_neg n2, if_neg n2]
    obtain ⟨c1, c2, c3⟩ := q
    by_cases q2 : x2 ≤ x3 ∧ x3 ≤ 19
    · have q3 : 0 ≤ x3 ∧ x3 ≤ 19 := ⟨Int32.le_trans c2.1 q2.1, q2.2⟩
      rw [decide_eq_true q2, decide_eq_true q3, if_neg n2, if_neg n2, if_pos q2.1]
      obtain ⟨fa, ta, ia, sa, ca, od, pe, hpe, g1, g2, J⟩ := h.JB_ hL hw
      rw [g2] at c1
      obtain ⟨who, hwho, rfl⟩ := nj_in' (by omega) c1
      obtain ⟨a, ha, rfl⟩ := nj_in (n := 19) (by omega) c2
      obtain ⟨b, hb, rfl⟩ := nj_in (n := 19) (by omega) q3
      obtain ⟨kn, hkn, rfl⟩ := nj_in (by omega) c3
      have hab : a ≤ b := by
        have := q2.1
        rw [nj_le (by omega) (by omega)] at this
        exact this
      obtain ⟨v, p', r', b1, b2, b3⟩ := shorted_e W h.1.2.2.2.1 h.2.2.2.1 h.1.2.2.2.2.2.2.1 h.Wg_ hpe hwho (show b < 20 by omega) hkn (s := s) hw1 (b + 1 - a) a FU 0 p r 0 (by omega) (by unfold FU; omega) (by omega) J
      exact b3.ask (v := v) h b1 b2
    · rw [decide_eq_false q2, if_pos (show tI false = 0 by rfl)]
      refine Askm.no (v := -1) h hL hw ?_ rfl
      by_cases q3 : 0 ≤ x3 ∧ x3 ≤ 19
      · rw [decide_eq_true q3, if_neg n2, if_neg (fun z => q2 ⟨z, q3.2⟩)]
      · rw [decide_eq_false q3]; rfl
  · rw [decide_eq_false q]
    exact Askm.no (v := -1) h hL hw rfl rfl
theorem turned_in (W : WText D nc) (Wf : WFact D nc) (Wi : WItems D nc) (hn60 : nc ≤ 60) (hg : WgD D) (hpe : pe ≤ 10) {who k1 k2 N : Nat} (hwho : who < pe) (hk1 : k1 ≤ D.2.2) (hk2 : k2 ≤ D.2.2) (hw : w0 + N < 2147483647) (kP kR : Int32 → Int32 → Int32 → Mem → Option (Int32 × Mem)) (hK : ∀ p r, JB fa ta ia sa ca od D sup pe w0 p0 r0 (n + 53760) p r → ∃ v p' r', kP (nj k1) (nj k2) (nj (who + 1)) p = some (v, p') ∧ kR (nj k1) (nj k2) (nj (who + 1)) r = some (v, r') ∧ JB fa ta ia sa ca od D sup pe w0 p0 r0 N p' r') (hN : n + 53760 ≤ N) : ∀ (e wk fu : Nat) (p r : Mem), wk + e = 20 → e < fu → JB fa ta ia sa ca od D sup pe w0 p0 r0 (n + 2688 * wk) p r → ∃ v p' r', P_turned_40 kP fu (nj k1) (nj k2) (nj who) (nj wk) p = some (v, p') ∧ R_turned_31 kR fu (nj k1) (nj k2) (nj who) (nj wk) r = some (v, r') ∧ JB fa ta ia sa ca od D sup pe w0 p0 r0 N p' r'
  | 0, wk, fu + 1, p, r, he, _, J => by
    obtain ⟨v, p', r', a1, a2, a3⟩ := hK p r (J.mono (by omega))
    refine ⟨v, p', r', ?_, ?_, a3⟩
    · rw [P_turned_40.eq_2, if_pos (by rw [show (20 : Int32) = nj 20 from rfl, nj_le (by omega) (by omega)]; omega)]
      unfold P_turned_86
      rw [vb_e, nj_add_l]
      exact a1
    · rw [R_turned_31.eq_2, if_pos (by rw [show (20 : Int32) = nj 20 from rfl, nj_le (by omega) (by omega)]; omega)]
      unfold R_turned_72
      rw [vb_e, nj_add_l]
      exact a2
  | e + 1, wk, fu + 1, p, r, he, hf, J => by
    obtain ⟨v1, p1, r1, a1, a2, a3, a4⟩ := J.week W Wf Wi hn60 hg hpe hwho (show wk < 20 by omega) hk1 (by omega)
    obtain ⟨v2, p2, r2, b1, b2, b3, b4⟩ := a4.week W Wf Wi hn60 hg hpe hwho (show wk < 20 by omega) hk2 (by omega)
    have ih := turned_in W Wf Wi hn60 hg hpe hwho hk1 hk2 hw kP kR hK hN e (wk + 1) fu p2 r2 (by omega) (by omega) (b4.mono (by omega))
    have n20 : ¬ (20 : Int32) ≤ nj wk := by rw [show (20 : Int32) = nj 20 from rfl, nj_le (by omega) (by omega)]; omega
    rw [P_turned_40.eq_2, if_neg n20, a2, bn_s, b2, bn_s, R_turned_31.eq_2, if_neg n20, a3, bn_s, b3, bn_s, vb_e, vb_e, nj_add_l]
    by_cases q : v1 = v2
    · have e2 : lg_cmp (nl v1) (nl v2) = 0 := by
        rw [q]
        unfold lg_cmp
        rw [if_neg (fun z => absurd z (Int64.lt_irrefl)), if_pos rfl]
      rw [if_pos (by rw [q]), if_pos e2]
      exact ih
    · have n1 : ¬ nj v1 = nj v2 := fun z => q ((nj_inj (by omega) (by omega)).mp z)
      have n2 : ¬ lg_cmp (nl v1) (nl v2) = 0 := fun z => by
        unfold lg_cmp at z
        have n3 : ¬ nl v1 = nl v2 := fun y => q ((nl_inj (by omega) (by omega)).mp y)
        by_cases y : nl v1 > nl v2
        · rw [if_pos y] at z; exact absurd z (by decide)
        · rw [if_neg y, if_neg n3] at z; exact absurd z (by decide)
      rw [if_neg n1, if_neg n2]
      refine ⟨nj (20 * who + wk), p2, r2, ?_, ?_, b4.mono (by omega)⟩
      · unfold P_turned_72
        rw [show (20 : Int32) = nj 20 from rfl, nj_mul, nj_add, Nat.mul_comm]
      · unfold R_turned_58
        rw [show (20 : Int32) = nj 20 from rfl, nj_mul, nj_add]
theorem turned_out (W : WText D nc) (Wf : WFact D nc) (Wi : WItems D nc) (hn60 : nc ≤ 60) (hg : WgD D) (hpe : pe ≤ 10) {k1 k2 : Nat} (hk1 : k1 ≤ D.2.2) (hk2 : k2 ≤ D.2.2) (hw : w0 + 537600 < 2147483647) : ∀ (e who fu : Nat) (p r : Mem), who + e = pe → e < fu → (mI p0 386 5 = nj pe ∧ mI r0 1595 0 = nj pe ∧ 51 ≤ mC p0 ∧ 82 ≤ mC r0) → JB fa ta ia sa ca od D sup pe w0 p0 r0 (53760 * who) p r → ∃ v p' r', P_turned_26 fu (nj k1) (nj k2) (nj who) p = some (v, p') ∧ R_turned_20 fu (nj k1) (nj k2) (nj who) r = some (v, r') ∧ JB fa ta ia sa ca od D sup pe w0 p0 r0 537600 p' r'
  | 0, who, fu + 1, p, r, he, _, hb, J => by
    obtain ⟨w1, h1, hJ, c1, c2, -⟩ := id J
    refine ⟨-1, p, r, ?_, ?_, J.mono (by omega)⟩
    · rw [P_turned_26.eq_2, c1.i (by decide) (by omega), hb.1, if_pos (by rw [nj_le (by omega) (by omega)]; omega)]
    · rw [R_turned_20.eq_2, c2.i (by decide) (by omega), hb.2.1, if_pos (by rw [nj_le (by omega) (by omega)]; omega)]
  | e + 1, who, fu + 1, p, r, he, hf, hb, J => by
    obtain ⟨w1, h1, hJ, c1, c2, -⟩ := id J
    rw [P_turned_26.eq_2, c1.i (by decide) (by omega), hb.1, if_neg (by rw [nj_le (by omega) (by omega)]; omega), R_turned_20.eq_2, c2.i (by decide) (by omega), hb.2.1, if_neg (by rw [nj_le (by omega) (by omega)]; omega)]
    exact turned_in (n := 53760 * who) (N := 537600) W Wf Wi hn60 hg hpe (show who < pe by omega) hk1 hk2 hw _ _ (fun p r J => turned_out W Wf Wi hn60 hg hpe hk1 hk2 hw e (who + 1) fu p r (by omega) (by omega) hb (J.mono (by omega))) (by omega) 20 0 FU p r (by omega) (by unfold FU; omega) (J.mono (by omega))
theorem st_turned (h : Bs nc p r) (hL : LC (dat r) none r) (hw : mI p 1157 25 = nj w) (hw1 : w + 537600 < 2147483647) (x1 x2 : Int32) : Askm nc w 537600 p r (P_turned x1 x2 p) (R_turned x1 x2 r) := by
  have W := h.1.2.2.1
  have h160 := W.2.1
  have n2 : ¬ tI true = 0 := by decide
  unfold P_turned R_turned
  rw [P_canKnow_e h.1 x1, bn_s, P_canKnow_e h.1 x2, bn_s, R_isKnown_e h.1 x1, bn_s, R_isKnown_e h.1 x2, bn_s]
  by_cases q1 : 0 ≤ x1 ∧ x1 ≤ nj (dat r).2.2
  · rw [decide_eq_true q1, if_neg n2, if_neg n2]
    by_cases q2 : 0 ≤ x2 ∧ x2 ≤ nj (dat r).2.2
    · rw [decide_eq_true q2, if_neg n2, if_neg n2]
      obtain ⟨k1, hk1, rfl⟩ := nj_in (by omega) q1
      obtain ⟨k2, hk2, rfl⟩ := nj_in (by omega) q2
      obtain ⟨fa, ta, ia, sa, ca, od, pe, hpe, g1, g2, J⟩ := h.JB_ hL hw
      obtain ⟨v, p', r', a1, a2, a3⟩ := turned_out W h.1.2.2.2.1 h.2.2.2.1 h.1.2.2.2.2.2.2.1 h.Wg_ hpe hk1 hk2 hw1 pe 0 FU p r (by omega) (by unfold FU; omega) ⟨g1, g2, h.1.1.1, h.1.2.1⟩ J
      exact a3.ask (v := v) h a1 a2
    · rw [decide_eq_false q2]
      exact Askm.no (v := -1) h hL hw rfl rfl
  · rw [decide_eq_false q1]
    exact Askm.no (v := -1) h hL hw rfl rfl
end Js
