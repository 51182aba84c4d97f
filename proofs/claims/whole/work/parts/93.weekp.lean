/-! Layer C: a week's pay, in the class -/
def LdW (fa : Nat → Nat) (D : Dt) (X : Dy) (wk : Nat) (p : Mem) : Prop := Ld29 fa D (xa X) wk (xn X) p ∧ mI p 1028 28 = nj (xn X) ∧ ∃ who, who < 10 ∧ xa X = nj who ∧ aI p 8 who = nj (xf X) ∧ aI p 9 who = xt X ∧ aI p 10 who = xy X
section Wk
variable {fa ta ia sa ca : Nat → Nat} {od : List Nat} {p : Mem} {D : Dt} {nc : Nat} {X : Dy} {sup : Sup} {w : Nat}
theorem LdW.X_ {wk q : Nat} (h : LdW fa D X wk p) (hq : q < 7) : LdX fa D (XQ X wk q) p := by
  obtain ⟨h1, h2, h3⟩ := h
  refine ⟨?_, h2, h3⟩
  show Ld29 fa D (xa X) ((7 * wk + q) / 7) (xn X) p
  rw [show (7 * wk + q) / 7 = wk by omega]
  exact h1
theorem LdW.Ch {wk : Nat} {F A : List Nat} {p' : Mem} {dy : Nat → Prop} (H : LdW fa D X wk p) (T : Top p) (c : Ch F A dy p p') (hF : 1026 ∉ F ∧ 1027 ∉ F ∧ 1028 ∉ F) (hA : 29 ∉ A ∧ 8 ∉ A ∧ 9 ∉ A ∧ 10 ∉ A) (hd : ∀ a, dy a → 51 ≤ a) : LdW fa D X wk p' := by
  have T1 := T.1
  have nd : ∀ a, a < 51 → ¬ dy a := fun a ha q => by have := hd a q; omega
  obtain ⟨h1, h2, who, h3, h4, h5, h6, h7⟩ := H
  exact ⟨h1.Ch T c ⟨hF.1, hF.2.1⟩ hA.1 (nd _ (by omega)), by rw [c.i hF.2.2 (by omega)]; exact h2, who, h3, h4, by rw [c.ai hA.2.1 (nd _ (by omega)) (by omega)]; exact h5, by rw [c.ai hA.2.2.1 (nd _ (by omega)) (by omega)]; exact h6, by rw [c.ai hA.2.2.2 (nd _ (by omega)) (by omega)]; exact h7⟩
theorem PS.h51 (h : PS fa ta ia sa ca od D sup w p) : ∀ a, dyT ta D.2.1 a → 51 ≤ a := fun a q => by
  by_cases z : a ≤ 51
  · exact absurd q (dyT_lo h.1 z)
  · omega
theorem P_week_10_e (h24 : D.2.1 ≤ 24) : ∀ (e i fu : Nat) (p : Mem), i + e = D.2.1 → e < fu → PS fa ta ia sa ca od D sup w p → (∀ k, k ∈ od.take i → mL p 1296 (ta k) = nl 0) → ∃ p', P_Reckoning_weekPay_10 fu (nj i) p = P_Reckoning_weekPay_42 p' ∧ (∀ k, k < D.2.1 → mL p' 1296 (ta k) = nl 0) ∧ PS fa ta ia sa ca od D sup w p' ∧ Ch [1296] [] nil p p' ∧ mC p' = mC p ∧ mS p' = mS p
  | 0, i, fu + 1, p, hi, _, P, H => by
    have L := P.1
    have ht : od.take i = od := List.take_of_length_le (by rw [L.2.2.1.1]; omega)
    rw [ht] at H
    refine ⟨p, ?_, fun k hk => H k ((L.2.2.1.2.2.1 k).mpr hk), P, Ch.rfl, rfl, rfl⟩
    rw [P_Reckoning_weekPay_10.eq_2, L.2.1.1, if_pos (by rw [nj_le (by omega) (by omega)]; omega)]
  | e + 1, i, fu + 1, p, hi, hf, P, H => by
    have L := P.1
    obtain ⟨l, l1, l2, l3⟩ := od_get L (i := i) (by omega)
    obtain ⟨t1, t2, -⟩ := L.2.1.2.1 l l2
    have htake : od.take (i + 1) = od.take i ++ [l] := by
      rw [List.take_add_one, l1]
      rfl
    have c1 : Ch [1296] [] nil p (sL p 1296 (ta l) 0) := Ch.rfl.sL (by decide)
    obtain ⟨p', a1, a2, a3, a4, a5, a6⟩ := P_week_10_e h24 e (i + 1) fu (sL p 1296 (ta l) 0) (by omega) (by omega) (P.Ch c1 (by decide) (by decide) (by decide)) (fun k hk => by
      rw [k_mL_sL_e, up1_ap]
      rw [htake] at hk
      by_cases z : ta k = ta l
      · rw [if_pos z]; rfl
      · rw [if_neg z]
        rcases List.mem_append.mp hk with q | q
        · exact H k q
        · exact absurd (by rw [List.mem_singleton.mp q]) z)
    refine ⟨p', ?_, a2, a3, c1.trans a4, by rw [a5, k_mC_sL], by rw [a6, k_mS_sL]⟩
    rw [P_Reckoning_weekPay_10.eq_2, L.2.1.1, if_neg (by rw [nj_le (by omega) (by omega)]; omega), inb_nj (by omega), gd_t (decide_eq_true (by omega)), ix_nj (by omega), l3, gs_s, gt_t t2, vb_e, vb_e, nj_add_l]
    exact a1
theorem P_addUp_2_e (hv : ∀ h, vN D X sup h ≤ 200000000) {T : Nat → Nat} : ∀ (e h fu : Nat) (p : Mem), h + e = 48 → e < fu → PS fa ta ia sa ca od D sup w p → (∀ g, g < 48 → aR p 33 g = (awH D X g).map ta ∧ aI p 38 g = nj (vN D X sup g)) → (∀ k, k < D.2.1 → mL p 1296 (ta k) = nl (T k + suH D X sup k h)) → ∃ p', P_Reckoning_addUp_2 fu (nj h) p = some ((), p') ∧ (∀ k, k < D.2.1 → mL p' 1296 (ta k) = nl (T k + suH D X sup k 48)) ∧ PS fa ta ia sa ca od D sup w p' ∧ Ch [1296] [] nil p p' ∧ mC p' = mC p ∧ mS p' = mS p
  | 0, h, fu + 1, p, he, _, P, H, HT => by
    refine ⟨p, ?_, by rw [show 48 = h by omega]; exact HT, P, Ch.rfl, rfl, rfl⟩
    rw [P_Reckoning_addUp_2.eq_2, if_pos (by rw [show (48 : Int32) = nj 48 from rfl, nj_le (by omega) (by omega)]; omega)]
  | e + 1, h, fu + 1, p, he, hf, P, H, HT => by
    have L := P.1
    have gh : ∀ {β : Type} (c : Option β), gd (inb (nj h) 48) c = c := fun c => by rw [inb_nj (by omega), gd_t (decide_eq_true (by omega))]
    have hs : ∀ k, suH D X sup k (h + 1) = suH D X sup k h + if awH D X h = some k then vN D X sup h else 0 := fun _ => rfl
    rw [P_Reckoning_addUp_2.eq_2, if_neg (by rw [show (48 : Int32) = nj 48 from rfl, nj_le (by omega) (by omega)]; omega)]
    unfold P_Reckoning_addUp_38
    simp only [gh, vb_e, nj_add_l, ix_nj (show h < 2147483648 by omega)]
    rw [(H h (by omega)).1]
    cases c : awH D X h with
    | none =>
      rw [if_pos (by rfl)]
      exact P_addUp_2_e hv e (h + 1) fu p (by omega) (by omega) P H (fun k hk => by
        rw [hs, c, if_neg (by simp)]
        exact HT k hk)
    | some b =>
      have hb := (GW_aw h b c).1
      obtain ⟨t1, t2, -⟩ := L.2.1.2.1 b hb
      have hvv := hv h
      show ∃ p', (if some (ta b) = none then _ else gs (some (ta b)) _) = _ ∧ _
      rw [if_neg (by simp), gs_s, gt_t t2, HT b hb, (H h (by omega)).2, nj_64 (by omega), nl_add]
      have c1 : Ch [1296] [] nil p (sL p 1296 (ta b) (nl (T b + suH D X sup b h + vN D X sup h))) := Ch.rfl.sL (by decide)
      obtain ⟨p', a1, a2, a3, a4, a5, a6⟩ := P_addUp_2_e hv (T := T) e (h + 1) fu (sL p 1296 (ta b) (nl (T b + suH D X sup b h + vN D X sup h))) (by omega) (by omega) (P.Ch c1 (by decide) (by decide) (by decide)) (fun g hg => by rw [k_aR_sL, k_aI_sL]; exact H g hg) (fun k hk => by
        rw [k_mL_sL_e, up1_ap, hs, c]
        by_cases z : k = b
        · rw [if_pos (by rw [z]), if_pos (by rw [z]), z, Nat.add_assoc]
        · rw [if_neg (fun y => z (ta_inj L hk hb y)), if_neg (fun y => z (Option.some.inj y).symm)]
          exact HT k hk)
      exact ⟨p', a1, a2, a3, c1.trans a4, by rw [a5, k_mC_sL], by rw [a6, k_mS_sL]⟩
theorem P_week_48_e (W : WText D nc) (Wf : WFact D nc) (Wi : WItems D nc) (hn60 : nc ≤ 60) (hg : WgD D) (hf8 : xf X < 8) (hn : xn X ≤ D.2.2) {wk : Nat} (hwk : wk < 20) (hw : w + 1344 < 2147483647) : ∀ (e q fu : Nat) (p : Mem) (w1 : Nat) (an : Bool), q + e = 7 → e < fu → PS fa ta ia sa ca od D sup w1 p → w1 ≤ w + 192 * q → LdW fa D X wk p → (∀ k, k < D.2.1 → mL p 1296 (ta k) = nl (toW D X sup wk k q)) → (an = false → ∀ k, toW D X sup wk k q = 0) →
    ∃ p' w' an', P_Reckoning_weekPay_48 fu (tI an) (nj q) p = P_Reckoning_weekPay_83 (tI an') p' ∧ PS fa ta ia sa ca od D sup w' p' ∧ w' ≤ w + 1344 ∧ LdW fa D X wk p' ∧ (∀ k, k < D.2.1 → mL p' 1296 (ta k) = nl (toW D X sup wk k 7)) ∧ (an' = false → ∀ k, toW D X sup wk k 7 = 0) ∧ Ch (1296 :: rkF) rkA (dyT ta D.2.1) p p' ∧ mC p' = mC p ∧ mS p' = mS p
  | 0, q, fu + 1, p, w1, an, he, _, P, hw1, HL, HT, Ha => by
    refine ⟨p, w1, an, ?_, P, by omega, HL, by rw [show 7 = q by omega]; exact HT, by rw [show 7 = q by omega]; exact Ha, Ch.rfl, rfl, rfl⟩
    rw [P_Reckoning_weekPay_48.eq_2, if_pos (by rw [show (7 : Int32) = nj 7 from rfl, nj_le (by omega) (by omega)]; omega)]
  | e + 1, q, fu + 1, p, w1, an, he, hf, P, hw1, HL, HT, Ha => by
    have T1 := P.2.1.1
    have hd : xd (XQ X wk q) < 140 := by show 7 * wk + q < 140; omega
    have hs : ∀ k, toW D X sup wk k (q + 1) = toW D X sup wk k q + suH D (XQ X wk q) sup k 48 := fun _ => rfl
    have htk := P_tasksOn_e P.1.1 HL.1 hn (q := q) (by omega)
    have htk' : P_Reckoning_tasksOn (nj q) p = some (nj (tkN D (rwH D (XQ X wk q)) 48), p) := htk
    have h48 := tkN_le (D := D) (o := rwH D (XQ X wk q)) 48
    rw [P_Reckoning_weekPay_48.eq_2, if_neg (by rw [show (7 : Int32) = nj 7 from rfl, nj_le (by omega) (by omega)]; omega), htk', bn_s]
    unfold P_Reckoning_weekPay_77
    simp only [vb_e, nj_add_l]
    by_cases c : tkN D (rwH D (XQ X wk q)) 48 = 0
    · have h0 : ∀ k, suH D (XQ X wk q) sup k 48 = 0 := fun k => suH_no 48 (fun h hh z => by
        have := (aw_some z).2.2.2.2
        have h2 : isTk (tsH D (XQ X wk q) h) = false := tk_zero 48 c h hh
        rw [h2] at this
        cases this)
      rw [if_pos (by rw [c]; decide)]
      exact P_week_48_e W Wf Wi hn60 hg hf8 hn hwk hw e (q + 1) fu p w1 an (by omega) (by omega) P (by omega) HL (fun k hk => by rw [hs, h0]; exact HT k hk) (fun z k => by rw [hs, h0, Ha z k])
    · rw [if_neg (by rw [nj_le_l (by omega) (by omega)]; exact fun z => c (Nat.le_zero.mp z))]
      obtain ⟨p1, w2, a1, a2, a3, a4, a5, a6, a7, a8⟩ := P_reckon_e (X := XQ X wk q) W Wf Wi hn60 hd hf8 hn (by omega) P (HL.X_ (by omega))
      have a1' : P_Reckoning_reckon (nj q) p = some ((), p1) := by
        have e7 : xd (XQ X wk q) % 7 = q := by show (7 * wk + q) % 7 = q; omega
        rw [e7] at a1
        exact a1
      have hvN := fun h => vN_e (X := XQ X wk q) (sup := sup) W Wf Wi hn60 hg hd hn h
      have tk' : ∀ k, k < D.2.1 → ta k < mC p := fun k hk => P.2.1.lt (by rw [(P.1.2.1.2.1 k hk).2.1]; decide)
      obtain ⟨p2, b1, b2, b3, b4, b5, b6⟩ := P_addUp_2_e (X := XQ X wk q) (T := fun k => toW D X sup wk k q) (fun h => (hvN h).1) 48 0 FU p1 (by omega) (by unfold FU; omega) a2 (fun g hg => ⟨(a4 g hg).1.2.2.2.1, by rw [(a4 g hg).2.2, (hvN g).2.1]⟩) (fun k hk => by
        rw [a6.l (by decide) (tk' k hk)]
        exact HT k hk)
      have c2 : Ch (1296 :: rkF) rkA (dyT ta D.2.1) p p2 := (a6.mono (by decide) (fun _ h => h) (fun _ h => h)).trans (b4.dy.mono (by decide) (by simp) (fun _ h => h))
      obtain ⟨p', w', an', d1, d2, d3, d4, d5, d6, d7, d8, d9⟩ := P_week_48_e W Wf Wi hn60 hg hf8 hn hwk hw e (q + 1) fu p2 w2 true (by omega) (by omega) b3 (by omega) (HL.Ch P.2.1 c2 (by decide) (by decide) P.h51) (fun k hk => by rw [hs]; exact b2 k hk) (fun z => by cases z)
      refine ⟨p', w', an', ?_, d2, d3, d4, d5, d6, c2.trans d7, by omega, by omega⟩
      rw [a1', bn_s]
      have b1' : P_Reckoning_addUp p1 = some ((), p2) := b1
      rw [b1', bn_s]
      exact d1
theorem sm_oneV {o : Option Nat} {v : Nat} : ∀ l : List Nat, l.Nodup → sm (fun i => if o = some i then v else 0) l ≤ v
  | [], _ => Nat.zero_le _
  | x :: l, hd => by
    have hd' := List.nodup_cons.mp hd
    have ih := sm_oneV (o := o) (v := v) l hd'.2
    show (if o = some x then v else 0) + sm (fun i => if o = some i then v else 0) l ≤ _
    by_cases q : o = some x
    · have : ∀ i, i ∈ l → (if o = some i then v else 0) ≤ (fun _ => 0) i := fun i hi => by
        rw [if_neg (fun z => by rw [q] at z; cases z; exact hd'.1 hi)]
        exact Nat.le_refl _
      have h0 := sm_mono (f := fun i => if o = some i then v else 0) l this
      rw [sm_0] at h0
      rw [if_pos q]
      omega
    · rw [if_neg q]
      omega
theorem su_all (hv : ∀ h, vN D X sup h ≤ 200000000) {l : List Nat} (hd : l.Nodup) : ∀ H, sm (fun k => suH D X sup k H) l ≤ 200000000 * H
  | 0 => by
    show sm (fun _ => 0) l ≤ 0
    rw [sm_0]
    exact Nat.le_refl _
  | H + 1 => by
    have ih := su_all hv hd H
    have h1 := sm_oneV (o := awH D X H) (v := vN D X sup H) l hd
    have h2 := hv H
    show sm (fun k => suH D X sup k H + if awH D X H = some k then vN D X sup H else 0) l ≤ _
    rw [sm_add]
    omega
theorem to_all {wk : Nat} (hv : ∀ q h, q < 7 → vN D (XQ X wk q) sup h ≤ 200000000) {l : List Nat} (hd : l.Nodup) : ∀ Q, Q ≤ 7 → sm (fun k => toW D X sup wk k Q) l ≤ 9600000000 * Q
  | 0, _ => by
    show sm (fun _ => 0) l ≤ 0
    rw [sm_0]
    exact Nat.le_refl _
  | Q + 1, h => by
    have ih := to_all hv hd Q (by omega)
    have h1 := su_all (X := XQ X wk Q) (fun h' => hv Q h' (by omega)) hd 48
    show sm (fun k => toW D X sup wk k Q + suH D (XQ X wk Q) sup k 48) l ≤ _
    rw [sm_add]
    omega
theorem rd_200 {t c : Nat} : 200 * ((t + 100 * c) / (200 * c) * c) ≤ t + 100 * c := by
  have h3 : (t + 100 * c) / (200 * c) * (200 * c) ≤ t + 100 * c := Nat.div_mul_le_self _ _
  generalize (t + 100 * c) / (200 * c) = q at *
  have : q * (200 * c) = 200 * (q * c) := by
    rw [← Nat.mul_assoc, Nat.mul_comm q 200, Nat.mul_assoc]
  omega
theorem rd_all (W : WText D nc) (Wi : WItems D nc) {wk : Nat} : ∀ l : List Nat, (∀ k, k ∈ l → k < D.2.1) → 200 * sm (rdW D X sup wk) l ≤ sm (fun k => toW D X sup wk k 7) l + 24000 * l.length
  | [], _ => Nat.le_refl _
  | x :: l, h => by
    have ih := rd_all W Wi l (fun k hk => h k (by simp [hk])) (wk := wk)
    have h1 := (st_bd (X := X) W Wi (wk := wk) (h x (by simp))).2
    have h2 := rd_200 (t := toW D X sup wk x 7) (c := stQ D X wk x)
    show 200 * (rdW D X sup wk x + sm (rdW D X sup wk) l) ≤ toW D X sup wk x 7 + sm (fun k => toW D X sup wk k 7) l + 24000 * (l.length + 1)
    unfold rdW at *
    omega
theorem py_bd (W : WText D nc) (Wf : WFact D nc) (Wi : WItems D nc) (hn60 : nc ≤ 60) (hg : WgD D) (hn : xn X ≤ D.2.2) {wk : Nat} (hwk : wk < 20) {l : List Nat} (hd : l.Nodup) (hl : ∀ k, k ∈ l → k < D.2.1) : sm (rdW D X sup wk) l ≤ 336002880 := by
  have h24 := W.1
  have h1 := rd_all (X := X) (sup := sup) W Wi (wk := wk) l hl
  have h2 := to_all (X := X) (sup := sup) (wk := wk) (fun q h hq => (vN_e (X := XQ X wk q) (sup := sup) W Wf Wi hn60 hg (by show 7 * wk + q < 140; omega) hn h).1) hd 7 (by omega)
  have h3 := pigeon D.2.1 l hd hl
  omega
theorem P_rounded_43_e (W : WText D nc) (Wf : WFact D nc) (Wi : WItems D nc) (hn60 : nc ≤ 60) (hg : WgD D) (hn : xn X ≤ D.2.2) {wk : Nat} (hwk : wk < 20) (P : PD fa ta ia sa ca od D (xf X, 7 * wk + 6, xn X, xa X, 0, xt X) sup w p) (HT : ∀ k, k < D.2.1 → mL p 1296 (ta k) = nl (toW D X sup wk k 7)) : ∀ (e i fu : Nat), i + e = D.2.1 → e < fu → P_Reckoning_rounded_43 fu (nl (sm (rdW D X sup wk) (od.take i))) (nj i) p = some (nj (pyW D X sup wk), p)
  | 0, i, fu + 1, hi, _ => by
    have h24 := W.1
    have L := P.1
    have ht : od.take i = od := List.take_of_length_le (by rw [L.2.2.1.1]; omega)
    have hnd := od_nodup L.2.2.1.2.2.2
    have hb := py_bd (X := X) (sup := sup) W Wf Wi hn60 hg hn hwk hnd (fun k hk => (L.2.2.1.2.2.1 k).mp hk)
    rw [P_Reckoning_rounded_43.eq_2, L.2.1.1, if_pos (by rw [nj_le (by omega) (by omega)]; omega), ht]
    unfold P_Reckoning_rounded_132 pyW
    rw [nl_32 (by omega), sm_perm (rdW D X sup wk) od (List.range D.2.1) hnd List.nodup_range (fun x => by rw [List.mem_range]; exact L.2.2.1.2.2.1 x)]
  | e + 1, i, fu + 1, hi, hf => by
    have h24 := W.1
    have L := P.1
    have ih := P_rounded_43_e W Wf Wi hn60 hg hn hwk P HT e (i + 1) fu (by omega) (by omega)
    obtain ⟨l, l1, l2, l3⟩ := od_get L (i := i) (by omega)
    obtain ⟨t1, t2, t3, -⟩ := L.2.1.2.1 l l2
    have htake : od.take (i + 1) = od.take i ++ [l] := by
      rw [List.take_add_one, l1]
      rfl
    have hsm : sm (rdW D X sup wk) (od.take (i + 1)) = sm (rdW D X sup wk) (od.take i) + rdW D X sup wk l := by
      rw [htake, sm_app]
      rfl
    rw [hsm] at ih
    have hto := toW_bd (X := X) (sup := sup) (wk := wk) (k := l) (fun q h hq => (vN_e (X := XQ X wk q) (sup := sup) W Wf Wi hn60 hg (by show 7 * wk + q < 140; omega) hn h).1) 7 (by omega)
    have hst := st_bd (X := X) W Wi (wk := wk) l2
    have e95 : P_Reckoning_rounded_95 (fun z0 z1 z2 => P_Reckoning_rounded_43 fu z0 z1 z2) (nl (sm (rdW D X sup wk) (od.take i))) (nj i) (some (ta l)) (nl (stQ D X wk l)) p = some (nj (pyW D X sup wk), p) := by
      unfold P_Reckoning_rounded_95
      have h2 : nl (stQ D X wk l) * 200 = nl (200 * stQ D X wk l) := by rw [show (200 : Int64) = nl 200 from rfl, nl_mul, Nat.mul_comm]
      have h3 : nl (200 * stQ D X wk l) / 2 = nl (100 * stQ D X wk l) := by
        rw [show (2 : Int64) = nl 2 from rfl, nl_div (by omega) (by omega)]
        congr 1
        omega
      rw [gs_s, gt_t t2, h2, gnl_t (show ¬ nl (200 * stQ D X wk l) = nl 0 by rw [nl_inj (by omega) (by omega)]; omega), h3, HT l l2, nl_add, nl_div (by omega) (by omega), nl_mul, nl_add, vb_e, vb_e, nj_add_l]
      exact ih
    rw [P_Reckoning_rounded_43.eq_2, L.2.1.1, if_neg (by rw [nj_le (by omega) (by omega)]; omega), inb_nj (by omega), gd_t (decide_eq_true (by omega)), ix_nj (by omega), l3, gs_s, gt_t t2, P.2.2.2.2.1.1 l l2, t3]
    unfold P_Reckoning_rounded_94
    have hin : inH D (xf X, 7 * wk + 6, xn X, xa X, 0, xt X) l = inH D (XQ X wk 6) l := rfl
    rw [hin]
    cases ci : inH D (XQ X wk 6) l with
    | false =>
      have es : stQ D X wk l = 1 := by unfold stQ; rw [if_neg (by rw [ci]; simp)]
      rw [if_pos (by rfl)]
      rw [es] at e95
      exact e95
    | true =>
      rw [if_neg (by decide)]
      by_cases c0 : D.1 8 l = 0
      · rw [if_pos c0]
        have hwl : isW D l = true := decide_eq_true (Or.inl c0)
        have hR := P.2.2.2.2.1.2.1 l l2 (by rw [hin]; exact ci) hwl
        obtain ⟨c, c1, c2, ec⟩ := (bQ_ok W Wi (d := 7 * wk + 6) (f := xf X) (n := xn X) l2).2
        have e94 : mI p 1294 (ta l) = nj c := hR.2.2.2.trans ec
        have es : stQ D X wk l = c := by
          unfold stQ
          rw [if_pos ⟨ci, c0⟩, ec, ix_nj (by omega)]
        have em : jmax 1 (nj c) = nj c := by
          unfold jmax
          by_cases q : (1 : Int32) < nj c
          · rw [if_pos q]
          · rw [if_neg q]
            rw [nj_l_lt (by omega) (by omega)] at q
            have : c = 1 := by omega
            rw [this]
            rfl
        rw [e94, em, nj_64 (by omega)]
        rw [es] at e95
        exact e95
      · have es : stQ D X wk l = 1 := by unfold stQ; rw [if_neg (fun z => c0 z.2)]
        rw [if_neg c0]
        rw [es] at e95
        exact e95
theorem P_weekPay_e (W : WText D nc) (Wf : WFact D nc) (Wi : WItems D nc) (hn60 : nc ≤ 60) (hg : WgD D) (hf8 : xf X < 8) (hn : xn X ≤ D.2.2) {wk who : Nat} (hwk : wk < 20) (hwho : who < 10) (ea : xa X = nj who) (q1 : aI p 8 who = nj (xf X)) (q2 : aI p 9 who = xt X) (q3 : aI p 10 who = xy X) (hw : w + 1344 < 2147483647) (P : PS fa ta ia sa ca od D sup w p) :
    ∃ p' w', P_Reckoning_weekPay (nj who) (nj wk) (nj (xn X)) p = some (nj (pyW D X sup wk), p') ∧ PS fa ta ia sa ca od D sup w' p' ∧ w' ≤ w + 1344 ∧ Ch qF qA (dyT ta D.2.1) p p' ∧ mC p' = mC p ∧ mS p' = mS p := by
  have T1 := P.2.1.1
  have h24 := W.1
  have h160 := W.2.1
  obtain ⟨p1, a1, a2, a3, a4, a5, a6⟩ := P_load_e P.1.1 P.2.1 P.2.2.1 Wf h160 (a := nj who) (wk := wk) hwk hn
  have P1 := P.Ch a4 (by decide) (by decide) (by decide)
  have HL : LdW fa D X wk p1 := ⟨by rw [ea]; exact a2, a3, who, hwho, ea, by rw [a4.ai (by decide) nil_no (by omega)]; exact q1, by rw [a4.ai (by decide) nil_no (by omega)]; exact q2, by rw [a4.ai (by decide) nil_no (by omega)]; exact q3⟩
  obtain ⟨p2, b1, b2, b3, b4, b5, b6⟩ := P_week_10_e h24 D.2.1 0 FU p1 (by omega) (by unfold FU; omega) P1 (fun k hk => by simp at hk)
  have HL2 := HL.Ch P1.2.1 b4 (by decide) (by decide) (fun _ h => h.elim)
  obtain ⟨p3, w3, an, d1, d2, d3, d4, d5, d6, d7, d8, d9⟩ := P_week_48_e W Wf Wi hn60 hg hf8 hn hwk hw 7 0 FU p2 w false (by omega) (by unfold FU; omega) b3 (by omega) HL2 b2 (fun _ _ => rfl)
  have c3 : Ch qF qA (dyT ta D.2.1) p p3 := ((a4.dy.mono (by decide) (by decide) (fun _ h => h)).trans (b4.dy.mono (by decide) (by decide) (fun _ h => h))).trans (d7.mono (by decide) (by decide) (fun _ h => h))
  have hst : P_Reckoning_weekPay (nj who) (nj wk) (nj (xn X)) p = P_Reckoning_weekPay_83 (tI an) p3 := by
    unfold P_Reckoning_weekPay
    rw [a1, bn_s]
    refine Eq.trans b1 ?_
    unfold P_Reckoning_weekPay_42
    exact d1
  rw [hst]
  unfold P_Reckoning_weekPay_83
  cases an with
  | false =>
    have hz : pyW D X sup wk = 0 := by
      unfold pyW
      have h1 := rd_all (X := X) (sup := sup) W Wi (wk := wk) (List.range D.2.1) (fun k hk => List.mem_range.mp hk)
      have : ∀ l : List Nat, (∀ k, k ∈ l → k < D.2.1) → sm (rdW D X sup wk) l = 0 := by
        intro l
        induction l with
        | nil => intro _; rfl
        | cons x l ih =>
          intro h
          show rdW D X sup wk x + sm (rdW D X sup wk) l = 0
          rw [ih (fun k hk => h k (by simp [hk]))]
          have hs := st_bd (X := X) W Wi (wk := wk) (h x (by simp))
          unfold rdW
          rw [d6 rfl x, Nat.zero_add, Nat.div_eq_of_lt (by omega), Nat.zero_mul]
      exact this _ (fun k hk => List.mem_range.mp hk)
    rw [if_pos (by rfl), hz]
    exact ⟨p3, w3, rfl, d2, d3, c3, by omega, by omega⟩
  | true =>
    rw [if_neg (by decide)]
    obtain ⟨l1, l2, who', l3, l4, l5, l6, l7⟩ := d4
    have ew : who' = who := (nj_inj (by omega) (by omega)).mp (l4.symm.trans ea)
    subst ew
    obtain ⟨p4, g1, g2, g3, g4, g5, g6⟩ := open_PD (X := (xf X, 7 * wk + 6, xn X, xa X, 0, xt X)) W Wf Wi hn60 (by show 7 * wk + 6 < 140; omega) hf8 hn d2
    have tk' : ∀ k, k < D.2.1 → ta k < mC p3 := fun k hk => d2.2.1.lt (by rw [(d2.1.2.1.2.1 k hk).2.1]; decide)
    have hr := P_rounded_43_e (X := X) W Wf Wi hn60 hg hn hwk g2 (fun k hk => by rw [g4.l (by decide) (tk' k hk)]; exact d5 k hk) D.2.1 0 FU (by omega) (by unfold FU; omega)
    refine ⟨p4, w3, ?_, g3, d3, c3.trans (g4.mono (by decide) (by decide) (fun a ⟨k, hk, h⟩ => ⟨k, hk, by omega⟩)), by omega, by omega⟩
    unfold P_Reckoning_rounded
    have hday : nj wk * 7 + 7 - 1 = nj (7 * wk + 6) := by
      rw [show (7 : Int32) = nj 7 from rfl, nj_mul, nj_add, show (1 : Int32) = nj 1 from rfl, nj_sub (by omega)]
      congr 1
      omega
    rw [l1.1, ea, inb_nj (by omega), gd_t (decide_eq_true hwho), ix_nj (by omega), l5, l1.2.1, hday, l2]
    have g1' : P_Scene_open (nj (xf X)) (nj (7 * wk + 6)) (nj (xn X)) 0 p3 = some ((), p4) := g1
    rw [g1', bn_s]
    have hr' : P_Reckoning_rounded_43 FU 0 0 p4 = some (nj (pyW D X sup wk), p4) := hr
    rw [hr', bn_s]
end Wk
