/-! Layer C: a week's pay, in the reference -/
section Wy
variable {r : Mem} {D : Dt} {nc : Nat} {X : Dy} {sup : Sup} {who : Nat}
theorem LC_Ch {F A : List Nat} {r' : Mem} (h : LC D sup r) (hC : 82 ≤ mC r) (c : Ch F A nil r r') (hF : (F.all fun f => f != 1595 && f != 1627 && f != 1628 && f != 1629 && f != 1638 && f != 1639) = true) (hA : (A.all fun a => (a < 39 || 41 < a) && (a < 60 || 67 < a)) = true) : LC D sup r' := by
  rcases h with h | ⟨X, who, h⟩
  · left
    rw [c.i (fun q => by
      have := List.all_eq_true.mp hF 1627 q
      simp at this) (by omega)]
    exact h
  · exact Or.inr ⟨X, who, h.Ch hC c hF hA⟩
theorem R_pay_3_e (h24 : D.2.1 ≤ 24) {x1 x2 x3 : Int32} : ∀ (e i fu : Nat) (r : Mem), i + e = D.2.1 → e < fu → mI r 1554 0 = nj D.2.1 → (∀ k, k < i → aL r 72 k = nl 0) → ∃ r', R_payOf_3 fu x1 x2 x3 (nj i) r = R_payOf_26 x1 x2 x3 r' ∧ (∀ k, k < D.2.1 → aL r' 72 k = nl 0) ∧ Ch [] [72] nil r r' ∧ mC r' = mC r
  | 0, i, fu + 1, r, hi, _, h54, H => by
    refine ⟨r, ?_, by rw [show D.2.1 = i by omega]; exact H, Ch.rfl, rfl⟩
    rw [R_payOf_3.eq_2, h54, if_pos (by rw [nj_le (by omega) (by omega)]; omega)]
  | e + 1, i, fu + 1, r, hi, hf, h54, H => by
    have c1 : Ch [] [72] nil r (wL r 72 i 0) := Ch.rfl.wL (Or.inl (by decide))
    obtain ⟨r', a1, a2, a3, a4⟩ := R_pay_3_e h24 (x1 := x1) (x2 := x2) (x3 := x3) e (i + 1) fu (wL r 72 i 0) (by omega) (by omega) (by rw [k_mI_wL]; exact h54) (fun k hk => by
      rw [k_aL_wL_e, up1_ap]
      by_cases q : k = i
      · rw [if_pos q]; rfl
      · rw [if_neg q]; exact H k (by omega))
    refine ⟨r', ?_, a2, c1.trans a3, by rw [a4, k_mC_wL]⟩
    rw [R_payOf_3.eq_2, h54, if_neg (by rw [nj_le (by omega) (by omega)]; omega), inb_nj (by omega), gd_t (decide_eq_true (by omega)), vb_e, vb_e, nj_add_l, ix_nj (by omega)]
    exact a1
theorem R_pay_55_e (h24 : D.2.1 ≤ 24) (hv : ∀ h, vN D X sup h ≤ 200000000 ∧ jmax (wA D X sup h) (wG D X sup h) = nj (vN D X sup h)) {T : Nat → Nat} {x1 x2 x3 x4 : Int32} (k32 : Int32 → Int32 → Int32 → Int32 → Mem → Option (Int64 × Mem)) : ∀ (e h fu : Nat) (r : Mem), h + e = 48 → e < fu → (∀ g, g < 48 → RkH D X sup r g) → (∀ k, k < D.2.1 → aL r 72 k = nl (T k + suH D X sup k h)) → ∃ r', R_payOf_55 k32 fu x1 x2 x3 x4 (nj h) r = R_payOf_100 k32 x1 x2 x3 x4 r' ∧ (∀ k, k < D.2.1 → aL r' 72 k = nl (T k + suH D X sup k 48)) ∧ Ch [] [72] nil r r' ∧ mC r' = mC r
  | 0, h, fu + 1, r, he, _, H, HT => by
    refine ⟨r, ?_, by rw [show 48 = h by omega]; exact HT, Ch.rfl, rfl⟩
    rw [R_payOf_55.eq_2, if_pos (by rw [show (48 : Int32) = nj 48 from rfl, nj_le (by omega) (by omega)]; omega)]
  | e + 1, h, fu + 1, r, he, hf, H, HT => by
    have gh : ∀ {β : Type} (c : Option β), gd (inb (nj h) 48) c = c := fun c => by rw [inb_nj (by omega), gd_t (decide_eq_true (by omega))]
    have hs : ∀ k, suH D X sup k (h + 1) = suH D X sup k h + if awH D X h = some k then vN D X sup h else 0 := fun _ => rfl
    have hwo := R_worthOf_e (show h < 48 by omega) (H h (by omega))
    rw [R_payOf_55.eq_2, if_neg (by rw [show (48 : Int32) = nj 48 from rfl, nj_le (by omega) (by omega)]; omega), hwo]
    unfold R_payOf_94
    simp only [gh, vb_e, nj_add_l, bn_s, ix_nj (show h < 2147483648 by omega), (H h (by omega)).1.2.2.1]
    cases c : awH D X h with
    | none =>
      have hneg : boH D X h < 0 := by rcases aw_no c with z | z <;> rw [z] <;> decide
      rw [if_pos hneg]
      exact R_pay_55_e h24 hv k32 e (h + 1) fu r (by omega) (by omega) H (fun k hk => by
        rw [hs, c, if_neg (by simp)]
        exact HT k hk)
    | some b =>
      obtain ⟨eb, hb, -⟩ := aw_some c
      have hneg : ¬ boH D X h < 0 := by rw [eb, nj_nneg (by omega)]; exact id
      have hvv := hv h
      rw [if_neg hneg, eb, inb_nj (by omega), gd_t (decide_eq_true (by omega)), gd_t (decide_eq_true (by omega)), ix_nj (by omega), HT b hb, hvv.2, nj_64 (by omega), nl_add]
      have c1 : Ch [] [72] nil r (wL r 72 b (nl (T b + suH D X sup b h + vN D X sup h))) := Ch.rfl.wL (Or.inl (by decide))
      obtain ⟨r', a1, a2, a3, a4⟩ := R_pay_55_e h24 hv (T := T) (x1 := x1) (x2 := x2) (x3 := x3) (x4 := x4) k32 e (h + 1) fu (wL r 72 b (nl (T b + suH D X sup b h + vN D X sup h))) (by omega) (by omega) (fun g hg => by
        unfold RkH RfH
        rw [k_aI_wL]
        exact H g hg) (fun k hk => by
        rw [k_aL_wL_e, up1_ap, hs, c]
        by_cases z : k = b
        · rw [if_pos z, if_pos (by rw [z]), z, Nat.add_assoc]
        · rw [if_neg z, if_neg (fun y => z (Option.some.inj y).symm)]
          exact HT k hk)
      exact ⟨r', a1, a2, c1.trans a3, by rw [a4, k_mC_wL]⟩
theorem R_pay_32_e (W : WText D nc) (Wf : WFact D nc) (Wi : WItems D nc) (hn60 : nc ≤ 60) (hg : WgD D) (hf8 : xf X < 8) (hn : xn X ≤ D.2.2) {wk : Nat} (hwk : wk < 20) (hwho : who < 10) (ea : xa X = nj who) : ∀ (e q fu : Nat) (r : Mem), q + e = 7 → e < fu → RB D sup r → LC D sup r → (aI r 39 who = nj (xf X) ∧ nj who < mI r 1595 0) → aI r 40 who = xt X → aI r 41 who = xy X → (∀ k, k < D.2.1 → aL r 72 k = nl (toW D X sup wk k q)) →
    ∃ r', R_payOf_32 fu (nj who) (nj wk) (nj (xn X)) (nj (7 * wk + q)) r = R_payOf_106 (nj who) (nj wk) (nj (xn X)) r' ∧ RB D sup r' ∧ LC D sup r' ∧ (∀ k, k < D.2.1 → aL r' 72 k = nl (toW D X sup wk k 7)) ∧ Ch loF (72 :: loA) nil r r' ∧ mC r' = mC r
  | 0, q, fu + 1, r, he, _, HB, HC, e39, e40, e41, HT => by
    refine ⟨r, ?_, HB, HC, by rw [show 7 = q by omega]; exact HT, Ch.rfl, rfl⟩
    rw [R_payOf_32.eq_2, show (7 : Int32) * nj wk + 7 = nj (7 * wk + 7) by rw [show (7 : Int32) = nj 7 from rfl, nj_mul, nj_add], if_pos (by rw [nj_le (by omega) (by omega)]; omega)]
  | e + 1, q, fu + 1, r, he, hf, HB, HC, e39, e40, e41, HT => by
    have h24 := W.1
    have C2 := HB.2.1
    have hd : xd (XQ X wk q) < 140 := by show 7 * wk + q < 140; omega
    have hs : ∀ k, toW D X sup wk k (q + 1) = toW D X sup wk k q + suH D (XQ X wk q) sup k 48 := fun _ => rfl
    obtain ⟨r1, a1, a2, a3, a4, a5, a6⟩ := R_looks_e (X := XQ X wk q) W Wf Wi hn60 ⟨hwho, ea, hd, hf8, hn, e39, e40, e41⟩ HB HC
    have a1' : R_looks (nj who) (nj (7 * wk + q)) (nj (xn X)) r = some ((), r1) := a1
    have hvN := fun h => vN_e (X := XQ X wk q) (sup := sup) W Wf Wi hn60 hg hd hn h
    obtain ⟨r2, b1, b2, b3, b4⟩ := R_pay_55_e (X := XQ X wk q) (T := fun k => toW D X sup wk k q) h24 (fun h => ⟨(hvN h).1, (hvN h).2.1⟩) (x1 := nj who) (x2 := nj wk) (x3 := nj (xn X)) (x4 := nj (7 * wk + q)) (fun z0 z1 z2 z3 z4 => R_payOf_32 fu z0 z1 z2 z3 z4) 48 0 FU r1 (by omega) (by unfold FU; omega) a4.2.2.2.2.2.2.2.2.2.2.2.2.2 (fun k hk => by
      rw [a5.al (by decide) nil_no (by omega)]
      exact HT k hk)
    have c2 : Ch loF (72 :: loA) nil r r2 := (a5.mono (fun _ h => h) (by simp) (fun _ h => h)).trans (b3.mono (by simp) (by simp) (fun _ h => h))
    have rx : ∀ a, a = 39 ∨ a = 40 ∨ a = 41 → aI r2 a = aI r a := fun a ha => c2.ai (by unfold loA; simp; omega) nil_no (by omega)
    obtain ⟨r', d1, d2, d3, d4, d5, d6⟩ := R_pay_32_e W Wf Wi hn60 hg hf8 hn hwk hwho ea e (q + 1) fu r2 (by omega) (by omega) (a3.Ch_ b3 b4 (by decide) (by decide)) (LC_Ch (Or.inr ⟨_, _, a4⟩) a3.2.1 b3 (by decide) (by decide)) ⟨by rw [rx 39 (by omega)]; exact e39.1, by rw [c2.i (by decide) (by omega)]; exact e39.2⟩ (by rw [rx 40 (by omega)]; exact e40) (by rw [rx 41 (by omega)]; exact e41) (fun k hk => by rw [hs]; exact b2 k hk)
    refine ⟨r', ?_, d2, d3, d4, c2.trans d5, by omega⟩
    rw [R_payOf_32.eq_2, show (7 : Int32) * nj wk + 7 = nj (7 * wk + 7) by rw [show (7 : Int32) = nj 7 from rfl, nj_mul, nj_add], if_neg (by rw [nj_le (by omega) (by omega)]; omega), a1', bn_s]
    refine Eq.trans b1 ?_
    unfold R_payOf_100
    rw [vb_e, nj_add_l]
    exact d1
theorem to_no {wk k : Nat} (h : ∀ q g, awH D (XQ X wk q) g ≠ some k) : ∀ Q, toW D X sup wk k Q = 0
  | 0 => rfl
  | Q + 1 => by
    show toW D X sup wk k Q + suH D (XQ X wk Q) sup k 48 = 0
    rw [to_no h Q, suH_no 48 (fun g _ => h Q g)]
theorem rd_no {wk k : Nat} (h : ¬ D.1 8 k = 0) : rdW D X sup wk k = 0 := by
  have h0 : toW D X sup wk k 7 = 0 := to_no (fun q g z => h (aw_some z).2.2.1) 7
  have hs : stQ D X wk k = 1 := by unfold stQ; rw [if_neg (fun z => h z.2)]
  unfold rdW
  rw [h0, hs]
theorem R_pay_130_e (W : WText D nc) (Wf : WFact D nc) (Wi : WItems D nc) (hn60 : nc ≤ 60) (hg : WgD D) (hn : xn X ≤ D.2.2) {wk : Nat} (hwk : wk < 20) (hD : dat r = D) (h54 : mI r 1554 0 = nj D.2.1) (hB : Bt D (7 * wk + 6) (xf X) (xn X) r) (HT : ∀ k, k < D.2.1 → aL r 72 k = nl (toW D X sup wk k 7)) : ∀ (e i fu : Nat), i + e = D.2.1 → e < fu → R_payOf_130 fu (nl (sm (rdW D X sup wk) (List.range i))) (nj i) r = some (nl (pyW D X sup wk), r)
  | 0, i, fu + 1, hi, _ => by
    have h24 := W.1
    rw [R_payOf_130.eq_2, h54, if_pos (by rw [nj_le (by omega) (by omega)]; omega), show i = D.2.1 by omega]
    rfl
  | e + 1, i, fu + 1, hi, hf => by
    have h24 := W.1
    have hl : i < D.2.1 := by omega
    have ih := R_pay_130_e W Wf Wi hn60 hg hn hwk hD h54 hB HT e (i + 1) fu (by omega) (by omega)
    have hsm : sm (rdW D X sup wk) (List.range (i + 1)) = sm (rdW D X sup wk) (List.range i) + rdW D X sup wk i := by
      rw [List.range_succ, sm_app]
      rfl
    rw [hsm] at ih
    have hto := toW_bd (X := X) (sup := sup) (wk := wk) (k := i) (fun q h hq => (vN_e (X := XQ X wk q) (sup := sup) W Wf Wi hn60 hg (by show 7 * wk + q < 140; omega) hn h).1) 7 (by omega)
    have hst := st_bd (X := X) W Wi (wk := wk) hl
    have e174 : R_payOf_174 (fun z0 z1 z2 => R_payOf_130 fu z0 z1 z2) (nl (sm (rdW D X sup wk) (List.range i))) (nj i) (nl (stQ D X wk i)) r = some (nl (pyW D X sup wk), r) := by
      unfold R_payOf_174 R_payOf_209
      have h2 : (400 : Int64) * nl (stQ D X wk i) = nl (400 * stQ D X wk i) := by rw [show (400 : Int64) = nl 400 from rfl, nl_mul]
      have h3 : (2 : Int64) * nl (toW D X sup wk i 7) + 200 * nl (stQ D X wk i) = nl (2 * (toW D X sup wk i 7 + 100 * stQ D X wk i)) := by
        rw [show (2 : Int64) = nl 2 from rfl, show (200 : Int64) = nl 200 from rfl, nl_mul, nl_mul, nl_add]
        congr 1
        omega
      have h4 : (2 * (toW D X sup wk i 7 + 100 * stQ D X wk i)) / (400 * stQ D X wk i) = (toW D X sup wk i 7 + 100 * stQ D X wk i) / (200 * stQ D X wk i) := by
        rw [show 400 * stQ D X wk i = 2 * (200 * stQ D X wk i) by omega]
        exact Nat.mul_div_mul_left _ _ (by omega)
      rw [inb_nj (by omega), gd_t (decide_eq_true (by omega)), h2, gnl_t (show ¬ nl (400 * stQ D X wk i) = nl 0 by rw [nl_inj (by omega) (by omega)]; omega), ix_nj (by omega), HT i hl, h3, nl_div (by omega) (by omega), h4, nl_mul, nl_add, vb_e, vb_e, nj_add_l]
      exact ih
    rw [R_payOf_130.eq_2, h54, if_neg (by rw [nj_le (by omega) (by omega)]; omega), inb_nj (by omega), gd_t (decide_eq_true (by omega)), inb_nj (by omega), gd_t (decide_eq_true (by omega)), gd_t (decide_eq_true (by omega)), ix_nj (by omega), dat_t hD (x := 8) (by omega) hl, hB.1 i hl]
    by_cases c0 : D.1 8 i = 0
    · rw [if_pos c0]
      have hin : infO D (7 * wk + 6) (xf X) (xn X) i = inH D (XQ X wk 6) i := rfl
      rw [hin]
      cases ci : inH D (XQ X wk 6) i with
      | false =>
        have es : stQ D X wk i = 1 := by unfold stQ; rw [if_neg (by rw [ci]; simp)]
        rw [if_pos (by rfl)]
        rw [es] at e174
        exact e174
      | true =>
        rw [if_neg (by decide)]
        obtain ⟨c, c1, c2, ec⟩ := (bQ_ok W Wi (d := 7 * wk + 6) (f := xf X) (n := xn X) hl).2
        have e57 : aI r 57 i = nj c := (hB.2.1 i hl).2.2.2.trans ec
        have es : stQ D X wk i = c := by
          unfold stQ
          rw [if_pos ⟨ci, c0⟩, ec, ix_nj (by omega)]
        rw [e57, nj_64 (by omega)]
        rw [es] at e174
        exact e174
    · rw [if_neg c0]
      rw [rd_no c0, Nat.add_zero] at ih
      unfold R_payOf_209
      rw [vb_e, nj_add_l]
      exact ih
theorem R_payOf_e (W : WText D nc) (Wf : WFact D nc) (Wi : WItems D nc) (hn60 : nc ≤ 60) (hg : WgD D) (hf8 : xf X < 8) (hn : xn X ≤ D.2.2) {wk : Nat} (hwk : wk < 20) (hwho : who < 10) (ea : xa X = nj who) (HB : RB D sup r) (HC : LC D sup r) (e39 : aI r 39 who = nj (xf X) ∧ nj who < mI r 1595 0) (e40 : aI r 40 who = xt X) (e41 : aI r 41 who = xy X) :
    ∃ r', R_payOf (nj who) (nj wk) (nj (xn X)) r = some (nl (pyW D X sup wk), r') ∧ RB D sup r' ∧ LC D sup r' ∧ Ch loF (72 :: loA) nil r r' ∧ mC r' = mC r := by
  have h24 := W.1
  have C2 := HB.2.1
  obtain ⟨r1, a1, a2, a3, a4⟩ := R_pay_3_e h24 (x1 := nj who) (x2 := nj wk) (x3 := nj (xn X)) D.2.1 0 FU r (by omega) (by unfold FU; omega) HB.2.2.1 (fun _ h => absurd h (by omega))
  have rx : ∀ a, a < 72 → aI r1 a = aI r a := fun a ha => a3.ai (by simp; omega) nil_no (by omega)
  obtain ⟨r2, b1, b2, b3, b4, b5, b6⟩ := R_pay_32_e W Wf Wi hn60 hg hf8 hn hwk hwho ea 7 0 FU r1 (by omega) (by unfold FU; omega) (HB.Ch_ a3 a4 (by decide) (by decide)) (LC_Ch HC C2 a3 (by decide) (by decide)) ⟨by rw [rx 39 (by omega)]; exact e39.1, by rw [a3.i (by decide) (by omega)]; exact e39.2⟩ (by rw [rx 40 (by omega)]; exact e40) (by rw [rx 41 (by omega)]; exact e41) a2
  have c2 : Ch loF (72 :: loA) nil r r2 := (a3.mono (by simp) (by simp) (fun _ h => h)).trans b5
  obtain ⟨r3, d1, d2, d3, d4, d5, d6, d7, d8⟩ := b2.Bt_ W Wf Wi hn60 (d := 7 * wk + 6) (f := xf X) (n := xn X) (by omega) hf8 hn
  have h130 := R_pay_130_e (X := X) (sup := sup) W Wf Wi hn60 hg hn hwk d6.1 d6.2.2.1 d2 (fun k hk => by rw [d7.al (by decide) nil_no (by omega)]; exact b4 k hk) D.2.1 0 FU (by omega) (by unfold FU; omega)
  refine ⟨r3, ?_, d6, LC_Ch b3 b2.2.1 d7 (by decide) (by decide), c2.trans (d7.mono (by decide) (by decide) (fun _ h => h)), by omega⟩
  unfold R_payOf
  refine Eq.trans a1 ?_
  unfold R_payOf_26
  rw [vb_e, nj_l_mul]
  refine Eq.trans b1 ?_
  unfold R_payOf_106
  have hday : (7 : Int32) * nj wk + 6 = nj (7 * wk + 6) := by rw [show (7 : Int32) = nj 7 from rfl, show (6 : Int32) = nj 6 from rfl, nj_mul, nj_add]
  rw [inb_nj (by omega), gd_t (decide_eq_true hwho), ix_nj (by omega), c2.ai (by decide) nil_no (by omega), e39.1, hday, d1, bn_s]
  exact h130
end Wy
