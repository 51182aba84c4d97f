/-! Layer C: a COND of an ITEM -/
section St
variable {r r' : Mem} {x l c : Nat}
theorem segS_st {a b : Nat} (h : ∀ j, a ≤ j → j < b → aI r' 33 j = aI r 33 j ∧ aI r' 34 j = aI r 34 j) : segS (rwD r' x) a b = segS (rwD r x) a b := by
  unfold segS
  refine List.map_congr_left fun j hj => ?_
  obtain ⟨h1, h2⟩ := List.mem_range'_1.mp hj
  show encC (aI r' 33 j) (aI r' 34 j) = encC (aI r 33 j) (aI r 34 j)
  obtain ⟨e1, e2⟩ := h j h1 (by omega)
  rw [e1, e2]
theorem wfC_st : ∀ (n a d : Nat), (∀ j, a ≤ j → j < a + n → aI r' 33 j = aI r 33 j ∧ aI r' 34 j = aI r 34 j) → wfC (rwD r x) a n d → wfC (rwD r' x) a n d
  | 0, a, d, _, h => h
  | n + 1, a, d, hj, h => by
    obtain ⟨h1, h2⟩ := h
    refine ⟨h1, ?_⟩
    obtain ⟨e1, e2⟩ := hj a (Nat.le_refl _) (by omega)
    have e1' : (rwD r' x).1 33 a = (rwD r x).1 33 a := e1
    have e2' : (rwD r' x).1 34 a = (rwD r x).1 34 a := e2
    rw [e1', e2']
    have hj' : ∀ j, a + 1 ≤ j → j < a + 1 + n → aI r' 33 j = aI r 33 j ∧ aI r' 34 j = aI r 34 j := fun j q1 q2 => hj j (by omega) (by omega)
    rcases h2 with ⟨p1, p2, p3⟩ | ⟨p1, p2, p3⟩ | ⟨p1, p2, p3⟩
    · exact Or.inl ⟨p1, p2, wfC_st n (a + 1) (d + 1) hj' p3⟩
    · exact Or.inr (Or.inl ⟨p1, p2, wfC_st n (a + 1) (d + 1) hj' p3⟩)
    · exact Or.inr (Or.inr ⟨p1, p2, wfC_st n (a + 1) (d - 1) hj' p3⟩)
/-- a LIT stays when only what lies behind it changes -/
theorem lit_st {nt : Nat → Nat} (hx : x < 1000) (hb : LB r l c) (h2 : ∀ y, 27 ≤ y → y ≤ 32 → aI r' y l = aI r y l) (h3 : ∀ j, j < c → aI r' 33 j = aI r 33 j ∧ aI r' 34 j = aI r 34 j) : litS (rwD r' x) nt l = litS (rwD r x) nt l ∧ (WLit (rwD r x) l → WLit (rwD r' x) l) := by
  obtain ⟨hc, hb⟩ := hb
  have e27 : (rwD r' x).1 27 l = (rwD r x).1 27 l := h2 27 (by omega) (by omega)
  have e28 : (rwD r' x).1 28 l = (rwD r x).1 28 l := h2 28 (by omega) (by omega)
  have e29 : (rwD r' x).1 29 l = (rwD r x).1 29 l := h2 29 (by omega) (by omega)
  have e30 : (rwD r' x).1 30 l = (rwD r x).1 30 l := h2 30 (by omega) (by omega)
  have e31 : (rwD r' x).1 31 l = (rwD r x).1 31 l := h2 31 (by omega) (by omega)
  have e32 : (rwD r' x).1 32 l = (rwD r x).1 32 l := h2 32 (by omega) (by omega)
  rcases hb with ⟨b1, a, b2, b3⟩ | ⟨b1, a, b, e, b2, b3, b4, b5, b6, b7⟩
  · have b1' : (rwD r x).1 27 l = 4 := b1
    have b3' : (rwD r x).1 30 l = nj a := b3
    have e34 : (rwD r' x).1 34 a = (rwD r x).1 34 a := (h3 a b2).2
    constructor
    · unfold litS
      rw [e27, e30, b1', if_pos rfl, if_pos rfl, b3', ix_nj (by omega), e34]
    · rintro ⟨w1, w2, w3⟩
      unfold WLit
      rw [e27, e28, e29, e30]
      refine ⟨w1, w2, Or.inl ?_⟩
      rcases w3 with ⟨w4, c', v, w5, w6, w7, w8⟩ | ⟨s, a', b', e', w4, w5, -⟩
      · have w5' : c' < 500 * (x + 1) := w5
        rw [b3', nj_inj (by omega) (by omega)] at w7
        subst w7
        exact ⟨w4, a, v, w5, w6, b3', by rw [e34]; exact w8⟩
      · rw [b1'] at w5
        have w6 : nj 4 = nj s := w5
        rw [nj_inj (by omega) (by omega)] at w6
        omega
  · have b1' : (rwD r x).1 27 l ≠ 4 := b1
    have b2' : (rwD r x).1 30 l = nj a := b2
    have b3' : (rwD r x).1 31 l = nj b := b3
    have b4' : (rwD r x).1 32 l = nj e := b4
    constructor
    · unfold litS
      rw [e27, e30, e31, e32, if_neg b1', if_neg b1', b2', b3', b4', ix_nj (by omega), ix_nj (by omega), ix_nj (by omega), segS_st (r := r) (r' := r') (a := a) (b := b) (fun j _ q => h3 j (by omega)), segS_st (r := r) (r' := r') (a := b) (b := e) (fun j _ q => h3 j (by omega))]
    · rintro ⟨w1, w2, w3⟩
      unfold WLit
      rw [e27, e28, e29, e30, e31, e32]
      refine ⟨w1, w2, Or.inr ?_⟩
      rcases w3 with ⟨w4, -⟩ | ⟨s, a', b', e', w4, w5, w6, w7, w8, w9, w10, w11, w12, w13⟩
      · exact absurd w4 b1'
      · have w8' : e' ≤ 500 * (x + 1) := w8
        rw [b2', nj_inj (by omega) (by omega)] at w9
        rw [b3', nj_inj (by omega) (by omega)] at w10
        rw [b4', nj_inj (by omega) (by omega)] at w11
        subst w9 w10 w11
        exact ⟨s, a, b, e, w4, w5, w6, w7, w8, b2', b3', b4', wfC_st (b - a) a 0 (fun j _ q => h3 j (by omega)) w12, wfC_st (e - b) b 0 (fun j _ q => h3 j (by omega)) w13⟩
theorem LB.st {c' : Nat} (hb : LB r l c) (h2 : ∀ y, 27 ≤ y → y ≤ 32 → aI r' y l = aI r y l) (hc : c ≤ c') (hc' : c' < 20000) : LB r' l c' := by
  obtain ⟨-, hb⟩ := hb
  refine ⟨hc', ?_⟩
  rw [h2 27 (by omega) (by omega), h2 30 (by omega) (by omega), h2 31 (by omega) (by omega), h2 32 (by omega) (by omega)]
  rcases hb with ⟨b1, a, b2, b3⟩ | ⟨b1, a, b, e, b2, b3, b4, b5, b6, b7⟩
  · exact Or.inl ⟨b1, a, by omega, b3⟩
  · exact Or.inr ⟨b1, a, b, e, b2, b3, b4, b5, b6, by omega⟩
theorem conS_nt {D : Dt} {nt nt' : Nat → Nat} : ∀ (pa po : Bool) (l : List Nat), (∀ k, k ∈ l → nt k = nt' k) → conS D nt pa po l = conS D nt' pa po l
  | _, _, [], _ => rfl
  | pa, po, [k], h => by
    unfold conS litS
    rw [h k (by simp)]
  | pa, po, k :: k2 :: l, h => by
    have e : litS D nt k = litS D nt' k := by unfold litS; rw [h k (by simp)]
    unfold conS
    rw [e, conS_nt false true (k2 :: l) (fun j hj => h j (by simp [hj])), conS_nt true po (k2 :: l) (fun j hj => h j (by simp [hj]))]
end St
theorem aoS_st (pa po : Bool) : (∀ w, w ∈ aoS pa po → w < 300) ∧ stE (stO 2 (aoS pa po)).1 = (if pa = true then [570000] else []) ∧ (stO 2 (aoS pa po)).2 = (if po = true then [156] else []) ∧ stE (stO 1 (aoS pa po)).1 = (if pa = true then [570000] else []) ++ (if po = true then [560000] else []) ∧ (stO 1 (aoS pa po)).2 = [] := by
  cases pa <;> cases po <;> exact ⟨by unfold aoS; simp, rfl, rfl, rfl, rfl⟩
/-- what taking a COND leaves -/
def CGood (N : Nat) (kd pl : Nat → Nat) (a x l c cF : Nat) (orr pa po : Bool) (S : List Int32) (p r : Mem) (t i : Nat) (p' r' : Mem) (t' l' : Nat) (nt : Nat → Nat) : Prop :=
  Toks p' r' N kd pl ∧ t + 2 ≤ t' ∧ t' < N ∧ mI p' 779 22 = nj t' ∧ mI r' 1547 0 = nj t' ∧ mI r' 1549 0 = 0 ∧ mI r' 1548 0 = 0 ∧ l < l' ∧ 3 * (l' - l) + t ≤ t' + 1 ∧ mI r' 1580 0 = nj l' ∧ (∃ c', mI r' 1581 0 = nj c' ∧ c ≤ c' ∧ c' + t ≤ cF + i + t' ∧ ∀ k, l ≤ k → k < l' → LB r' k c') ∧ aI r' 29 l = tI orr ∧ (∀ k, l ≤ k → k < l' → aI r' 28 k = tI (odd (nt k))) ∧ (mI r' 1551 0 = 0 → mI r 1551 0 = 0 ∧ ∀ k, l ≤ k → k < l' → WLit (rwD r' x) k) ∧ Lat p' r' (pl t') ∧
  Arr p' (mC p) (S ++ conS (rwD r' x) nt pa po (List.range' l (l' - l))) ∧ mR p' 263 a = some (mC p) ∧ mR p' 262 a = mR p 262 a ∧ Ch (262 :: 263 :: 776 :: 777 :: FmF) [2, 3] nil p p' ∧ Ci a p p' ∧ mC p' = mC p + 1 ∧ mS p' + t ≤ mS p + i + t' ∧ Top p' ∧ Rk l c r r'
theorem Cc.ci {a : Nat} {p q : Mem} (h : Cc p q) : Ci a p q := ⟨h.1.mono (by decide) (by decide) (fun _ z => z), fun b hb _ f h1 h2 => h.1.2.2.1 f (by
  unfold FmF
  simp only [List.mem_cons, List.not_mem_nil, or_false]
  omega) b hb⟩
theorem cond_j {N : Nat} {kd pl : Nat → Nat} {a x cF : Nat} (hx : x ≤ 23) : ∀ (d : Nat) (orr pa po : Bool) (S : List Int32) (p r : Mem) (t i g l c fu : Nat), 501 - t ≤ d → Top p → mT p 2 = 32 → mN p 2 = 500 → mT p a = 3 → 82 ≤ mC r → Toks p r N kd pl → t < N → mI p 779 22 = nj t → mI r 1547 0 = nj t → mI r 1549 0 = 0 → mI r 1548 0 = 0 → Fs p true 0 0 false S (aoS pa po) → S.length + (aoS pa po).length ≤ i → i + 4 < t → g + i = FU → mI r 1581 0 = nj c → c ≤ cF + S.length → cF + i ≤ 500 * x + t → mI r 1580 0 = nj l → 200 * x ≤ l → 3 * (l - 200 * x) + 1 ≤ t → Lat p r (pl t) → d + 1 < fu →
    (∃ p' r' t' l' nt, P_Parser_takeFormula_10 g (some a) 1 (nj i) p = some (1, p') ∧ R_cond_4 fu (tI orr) 1 r = some ((), r') ∧ CGood N kd pl a x l c cF orr pa po S p r t i p' r' t' l' nt) ∨
    (∃ p' r', P_Parser_takeFormula_10 g (some a) 1 (nj i) p = some (0, p') ∧ R_cond_4 fu (tI orr) 1 r = some ((), r') ∧ Fld p' r' ∧ Cd p p' ∧ Rk l c r r')
  | 0, _, _, _, _, p, r, t, i, g, l, c, fu, hd, _, _, _, _, _, h1, h2, _, _, _, _, _, _, _, _, _, _, _, _, _, _, _, _ => absurd h2 (by have := h1.2.1; omega)
  | d + 1, orr, pa, po, S, p, r, t, i, g, l, c, fu, hd, T, ha2, ha3, ha, h82, h1, h2, h3, h4, h5, h6, hF, hi, hit, hg, hc, hcF1, hcF2, hl, hlx, hlt, hL, hfu => by
    have hN := h1.2.1
    have T1 := T.1
    obtain ⟨fu, rfl⟩ : ∃ f, fu = f + 1 := ⟨fu - 1, by omega⟩
    obtain ⟨ao1, ao2, ao3, ao4, ao5⟩ := aoS_st pa po
    have la : a < mC p := T.lt (by rw [ha]; decide)
    have out := lit_j (orr := orr) (S := S) (B := aoS pa po) (x1 := some a) (g := g) (x := x) (l := l) (c := c) (cF := cF) ao1 T1 h82 hx h1 h2 h3 h4 h5 h6 hF hi (by omega) hg hc hcF1 hcF2 hl (by omega) hL
    rw [R_cond_4.eq_2, if_neg (show ¬ (1 : Int32) = 0 by decide), if_pos h5]
    rcases out with ⟨p1, r1, t1, i1, g1, st, cm, S1, W1, n, u1, u2, u3, j1, j2, j3, j4, j5, j6, j7, j8, j9, j10, j11, j12, j13, j14, j15, ⟨c1, j16, j17, j18, j19⟩, j20, j21, j22, j23, j24, j25⟩ | ⟨p1, r1, u1, u2, u3, u4, u5⟩
    · rw [u1, u2, bn_s]
      obtain ⟨k1, k2, k3, k4, k5, k6, k7, k8⟩ := j1.2.2.2.2 t1 j3
      clear k7 k8
      have hp1 : Top p1 := T.Ch j24.1
      have hr1 : 82 ≤ mC r1 := by rw [j25.2.1]; exact h82
      obtain ⟨g1, rfl⟩ : ∃ f, g1 = f + 1 := ⟨g1 - 1, by unfold FU at u3; omega⟩
      have hst5 : st < 5 ∧ st ≠ 2 ∧ (st = 3 ∨ st = 4) := by omega
      rw [tf_it j4 (by omega) k3 j8.2.1 hst5.1 hst5.2.1 (by omega), if_pos hst5.2.2, is_r j6 j5 (by omega) k4 k1 56 (by omega) (x := 44) rfl, bn_s]
      obtain ⟨j14a, j14b⟩ := j14 1 (by omega) (by omega)
      obtain ⟨j14c, j14d⟩ := j14 2 (by omega) (by omega)
      have hQ : S.length + (litS (rwD r1 x) (fun _ => n) l).length + (aoS pa po).length ≤ i1 := by
        have e1 := congrArg List.length j14a
        have e2 := congrArg List.length j14b
        have e3 := stO_len 1 W1
        have e4 := stO_len 1 (aoS pa po)
        have e5 : ∀ q, (stE q).length = q.length := fun q => by unfold stE; simp
        simp only [List.length_append, e5] at e1
        omega
      by_cases zao : kd t1 = 56 ∨ kd t1 = 57
      · obtain ⟨m, a1, a2, a3, a4⟩ := g_and j8 (by omega) j10 (by rcases j9 with q | ⟨q1, q2, _⟩; exact Or.inl q; exact Or.inr ⟨q1, q2⟩) zao
        rw [a1, bn_s]
        have hm : mI m 779 22 = nj t1 := by rw [a4]; exact j4
        obtain ⟨n1, n2⟩ := next_r j6 j5 (by omega) k6
        -- what waits next
        obtain ⟨orr2, pa2, po2, eo, eS, eW2, ew⟩ : ∃ (orr2 pa2 po2 : Bool), orr2 = decide (kd t1 = 56) ∧ stE (stO (rk (kd t1)) W1).1 = stE (stO (rk (kd t1)) W1).1 ∧ (rk (kd t1) * 100 + kd t1) :: (stO (rk (kd t1)) W1).2 = aoS pa2 po2 ∧
            S1 ++ stE (stO (rk (kd t1)) W1).1 = S ++ litS (rwD r1 x) (fun _ => n) l ++ (if orr2 = true then (if pa = true then [570000] else []) ++ (if po = true then [560000] else []) else (if pa = true then [570000] else [])) ∧ pa2 = !orr2 ∧ po2 = (orr2 || po) := by
          rcases zao with z | z
          · refine ⟨true, false, true, by rw [decide_eq_true z], rfl, ?_, ?_, rfl, rfl⟩
            · rw [z, show rk 56 = 1 from rfl, j14b, ao5]; rfl
            · rw [z, show rk 56 = 1 from rfl, j14a, ao4]; rfl
          · refine ⟨false, true, po, by rw [decide_eq_false (by omega)], rfl, ?_, ?_, rfl, rfl⟩
            · rw [z, show rk 57 = 2 from rfl, j14d, ao3]
              cases po <;> rfl
            · rw [z, show rk 57 = 2 from rfl, j14c, ao2]; rfl
        have e45 : (if tI (decide (kd t1 = 56)) = 0 then bn (R_is 45 r1) fun r12 m13 => if r12 = 0 then R_cond_45 (fun z0 z1 z2 => R_cond_4 fu z0 z1 z2) (tI (decide (kd t1 = 56))) 0 m13 else R_cond_40 (fun z0 z1 z2 => R_cond_4 fu z0 z1 z2) (tI (decide (kd t1 = 56))) m13 else R_cond_40 (fun z0 z1 z2 => R_cond_4 fu z0 z1 z2) (tI (decide (kd t1 = 56))) r1) = bn (R_next r1) fun _ m3 => R_cond_4 fu (tI orr2) 1 m3 := by
          unfold R_cond_40 R_cond_45
          rw [← eo, if_neg (show ¬ (1 : Int32) = 0 by decide), is_r j6 j5 (by omega) k4 k1 57 (by omega) (x := 45) rfl, bn_s]
          rcases zao with z | z
          · rw [eo, decide_eq_true z, tI_t, if_neg (show ¬ (1 : Int32) = 0 by decide)]
          · rw [eo, decide_eq_false (show ¬ kd t1 = 56 by omega), tI_f, if_pos rfl, decide_eq_true z, tI_t, if_neg (show ¬ (1 : Int32) = 0 by decide), if_neg (show ¬ (1 : Int32) = 0 by decide)]
        rw [e45]
        have hlen2 : (S1 ++ stE (stO (rk (kd t1)) W1).1).length + (aoS pa2 po2).length ≤ i1 + 1 := by
          have e3 := stO_len (rk (kd t1)) W1
          have e5 : ∀ q, (stE q).length = q.length := fun q => by unfold stE; simp
          rw [← eW2, List.length_append, e5, List.length_cons]
          omega
        rw [eW2, ew.1] at a2
        rw [ew.1] at hlen2
        have hS2 : S.length + (litS (rwD r1 x) (fun _ => n) l).length ≤ (S ++ litS (rwD r1 x) (fun _ => n) l ++ (if orr2 = true then (if pa = true then [570000] else []) ++ (if po = true then [560000] else []) else (if pa = true then [570000] else []))).length := by
          rw [List.length_append, List.length_append]
          omega
        rcases tf_adv (x1 := some a) (x2 := 1) (fu := g1) (i := i1) (Q := fun m' => Fs m' true 0 0 false (S ++ litS (rwD r1 x) (fun _ => n) l ++ (if orr2 = true then (if pa = true then [570000] else []) ++ (if po = true then [560000] else []) else (if pa = true then [570000] else []))) (aoS pa2 po2)) hp1.1 (by omega) hm a4 a3 a2.2.2.2.2.1 (fun x => a2.s779 x) with ⟨w, p2, b1, b2, b3, b4⟩ | ⟨w, p2, b1, b2⟩
        · have hnx := j1.nxt j3 (by omega) w
          rw [b1, n1 w, bn_s]
          have hCc : Cc p p2 := Cc.trans j24 b4.cc
          have hx2 : Rk (l + 1) c1 r1 (sI r1 1547 0 (nj (t1 + 1))) := Rk.rfl.sI (by decide)
          have hcc2 : mI (sI r1 1547 0 (nj (t1 + 1))) 1581 0 = nj c1 := by rw [k_mI_sI (by omega)]; exact j16
          have hl2 : mI (sI r1 1547 0 (nj (t1 + 1))) 1580 0 = nj (l + 1) := by rw [k_mI_sI (by omega)]; exact j15
          have h51r : mI (sI r1 1547 0 (nj (t1 + 1))) 1551 0 = mI r1 1551 0 := by rw [k_mI_sI (by omega)]
          have hT2 : Toks p2 (sI r1 1547 0 (nj (t1 + 1))) N kd pl := (j1.cf b4 hp1.1).rk hx2 hr1
          have ih := cond_j (N := N) (kd := kd) (pl := pl) (a := a) (cF := cF) hx d orr2 pa2 po2 _ p2 (sI r1 1547 0 (nj (t1 + 1))) (t1 + 1) (i1 + 1) g1 (l + 1) c1 fu (by omega) (T.Ch hCc.1) (by rw [hCc.1.t (by omega)]; exact ha2) (by rw [hCc.1.n (by omega)]; exact ha3) (by rw [hCc.1.t la]; exact ha) (by rw [k_mC_sI]; exact hr1) hT2 hnx b3 (by rw [k_mI_sI_e, up1_ap, if_pos rfl]) (by rw [k_mI_sI (by omega)]; exact j6) (by rw [k_mI_sI (by omega)]; exact j7) b2 hlen2 (by omega) (by omega) hcc2 (by omega) (by omega) hl2 (by omega) (by omega) ((j23.same (b4.1.i (by decide) (by have := hp1.1; omega)) (b4.1.i (by decide) (by have := hp1.1; omega)) (by rw [k_mI_sI (by omega)]) (by rw [k_mI_sI (by omega)])).mono (hT2.mono (t1 + 1) (by omega) hnx)) (by omega)
          generalize sI r1 1547 0 (nj (t1 + 1)) = r2 at *
          rcases ih with ⟨p', r', t', l', nt, v1, v2, s1, s2, s3, s4, s5, s6, s7, s8, s9, s10, ⟨c', s11, s12, s13, s13b⟩, s14, s15, s16, s17, s18, s19, s20, s21, s22, s23, s24, s25, s26⟩ | ⟨p', r', v1, v2, v3, v4, v5⟩
          · left
            have hk : Rk (l + 1) c1 r1 r' := Rk.trans hx2 s26
            obtain ⟨ls1, ls2⟩ := lit_st (nt := fun _ => n) (x := x) (by omega) j19 (fun y y1 y2 => hk.2.2.2.2 l (by omega) y y1 y2) hk.2.2.2.1
            refine ⟨p', r', t', l', fun k => if k = l then n else nt k, v1, v2, s1, by omega, s3, s4, s5, s6, s7, by omega, by omega, s10, ⟨c', s11, by omega, by omega, fun k q1 q2 => if e : k = l then e ▸ j19.st (fun y y1 y2 => hk.2.2.2.2 l (by omega) y y1 y2) s12 (by omega) else s13b k (by omega) q2⟩, ?_, fun k q1 q2 => ?_, fun q => ?_, s17, ?_, by rw [← hCc.2.1]; exact s19, by rw [s20, hCc.1.r (by decide) la], ?_, Ci.trans hCc.ci s22, by rw [s23, hCc.2.1], by have := hCc.2.2; omega, s25, Rk.trans j25 (hk.mono (by omega) (by omega))⟩
            · rw [hk.2.2.2.2 l (by omega) 29 (by omega) (by omega)]; exact j21
            · show aI r' 28 k = tI (odd (if k = l then n else nt k))
              by_cases e : k = l
              · rw [if_pos e, e, hk.2.2.2.2 l (by omega) 28 (by omega) (by omega)]; exact j20
              · rw [if_neg e]; exact s15 k (by omega) q2
            · obtain ⟨q1, q2⟩ := s16 q
              rw [h51r] at q1
              obtain ⟨q3, q4⟩ := j22 q1
              refine ⟨q3, fun k q5 q6 => ?_⟩
              by_cases e : k = l
              · rw [e]; exact ls2 q4
              · exact q2 k (by omega) q6
            · rw [hCc.2.1] at s18
              have er : List.range' l (l' - l) = l :: List.range' (l + 1) (l' - (l + 1)) := by
                rw [show l' - l = (l' - (l + 1)) + 1 by omega]
                rfl
              have er2 : List.range' (l + 1) (l' - (l + 1)) = (l + 1) :: List.range' (l + 1 + 1) (l' - (l + 1) - 1) := by
                rw [show l' - (l + 1) = (l' - (l + 1) - 1) + 1 by omega]
                rfl
              have en : ∀ A Bb, conS (rwD r' x) (fun k => if k = l then n else nt k) A Bb (List.range' (l + 1) (l' - (l + 1))) = conS (rwD r' x) nt A Bb (List.range' (l + 1) (l' - (l + 1))) := fun A Bb => conS_nt A Bb _ fun k hk => by
                have := (List.mem_range'_1.mp hk).1
                show (if k = l then n else nt k) = nt k
                rw [if_neg (by omega)]
              have el : litS (rwD r' x) (fun k => if k = l then n else nt k) l = litS (rwD r1 x) (fun _ => n) l := by
                rw [← ls1]
                unfold litS
                rw [show (fun k => if k = l then n else nt k) l = n from if_pos rfl]
              have ec : conS (rwD r' x) (fun k => if k = l then n else nt k) pa po (List.range' l (l' - l)) = litS (rwD r1 x) (fun _ => n) l ++ ((if pa = true then [570000] else []) ++ (if aI r' 29 (l + 1) = 1 then (if po = true then [560000] else []) ++ conS (rwD r' x) nt false true (List.range' (l + 1) (l' - (l + 1))) else conS (rwD r' x) nt true po (List.range' (l + 1) (l' - (l + 1))))) := by
                rw [← en, ← en, er, er2, ← el]
                rfl
              rw [ec, s14]
              rw [ew.2.1, ew.2.2] at s18
              cases orr2 with
              | true =>
                rw [tI_t, if_pos rfl]
                simp only [if_true, Bool.not_true, Bool.true_or] at s18
                simp only [List.append_assoc] at s18 ⊢
                exact s18
              | false =>
                rw [tI_f, if_neg (show ¬ (0 : Int32) = 1 by decide)]
                simp only [Bool.false_eq_true, if_false, Bool.not_false, Bool.false_or] at s18
                simp only [List.append_assoc] at s18 ⊢
                exact s18
            · exact Ch.trans (hCc.1.mono (fun _ z => List.mem_cons_of_mem _ (List.mem_cons_of_mem _ z)) (fun _ z => z) (fun _ z => z)) s21
          · right
            exact ⟨p', r', v1, v2, v3, Cc.cd hCc v4, Rk.trans j25 ((Rk.trans hx2 v5).mono (by omega) (by omega))⟩
        · right
          obtain ⟨r2, d1, d2, d3⟩ := n2 w
          obtain ⟨fu, rfl⟩ : ∃ f, fu = f + 1 := ⟨fu - 1, by omega⟩
          rw [b1, d1, bn_s, R_cond_4.eq_2, if_neg (show ¬ (1 : Int32) = 0 by decide), if_neg d2.ne.1]
          exact ⟨p2, r2, rfl, rfl, b2.fld (p0 := p) j1 j3 d2, Cc.cd j24 b2.2.2.1.cd, Rk.trans j25 (Rx.rk (d3 c) hr1)⟩
      · left
        obtain ⟨m, b1, b2, b3, b4, b5, b6⟩ := g_end j8 (by omega) j10 k1 (by rcases j9 with q | ⟨q1, q2, q3⟩; exact Or.inl q; exact Or.inr ⟨q1, q3, fun _ => q2⟩) (fun _ => by omega)
        rw [j14a, ao4] at b3 b4
        have hlS : (S ++ litS (rwD r1 x) (fun _ => n) l ++ ((if pa = true then [570000] else []) ++ (if po = true then [560000] else []))).length ≤ i1 := by
          have e1 := congrArg List.length j14a
          have e3 := stO_len 1 W1
          have e5 : ∀ q, (stE q).length = q.length := fun q => by unfold stE; simp
          rw [ao4, List.length_append, e5] at e1
          omega
        have la1 : mT p1 a = 3 := by rw [j24.1.t la]; exact ha
        obtain ⟨p2, d1, d2, d3, d4, d5, d6, d7, d8, d9, d10⟩ := lay_e (c := true) (g := g1) (i := i1) (t := t1) (a := a) b5 hp1 (by rw [j24.1.t (by omega)]; exact ha2) (by rw [j24.1.n (by omega)]; exact ha3) la1 b2 b3 b4 (by omega) (by rw [b6]; exact j4)
        have d1' : P_Parser_takeFormula_123 (fun z0 z1 z2 z3 => P_Parser_takeFormula_10 g1 z0 z1 z2 z3) (some a) 1 (nj i1) 0 m = some (1, p2) := d1
        have d4' : mR p2 263 a = some (mC p1) := d4
        have d5' : mR p2 262 a = mR p1 262 a := d5
        have hT2 : Toks p2 r1 N kd pl := j1.ch d2 hp1.1 (by decide)
        obtain ⟨fu, rfl⟩ : ∃ f, fu = f + 1 := ⟨fu - 1, by omega⟩
        have eR : (if tI (decide (kd t1 = 56)) = 0 then bn (R_is 45 r1) fun r12 m13 => if r12 = 0 then R_cond_45 (fun z0 z1 z2 => R_cond_4 (fu + 1) z0 z1 z2) (tI (decide (kd t1 = 56))) 0 m13 else R_cond_40 (fun z0 z1 z2 => R_cond_4 (fu + 1) z0 z1 z2) (tI (decide (kd t1 = 56))) m13 else R_cond_40 (fun z0 z1 z2 => R_cond_4 (fu + 1) z0 z1 z2) (tI (decide (kd t1 = 56))) r1) = some ((), r1) := by
          unfold R_cond_45
          rw [decide_eq_false (show ¬ kd t1 = 56 by omega), tI_f, if_pos rfl, is_r j6 j5 (by omega) k4 k1 57 (by omega) (x := 45) rfl, bn_s, decide_eq_false (show ¬ kd t1 = 57 by omega), tI_f, if_pos rfl, if_pos rfl]
          show R_cond_4 (fu + 1) 0 0 r1 = _
          rw [R_cond_4.eq_2, if_pos rfl]
        rw [b1, bn_s, d1', eR]
        refine ⟨p2, r1, t1, l + 1, fun _ => n, rfl, rfl, hT2, j2, j3, by rw [d9, b6]; exact j4, j5, j6, j7, by omega, by omega, j15, ⟨c1, j16, j17, by omega, fun k q1 q2 => by rw [show k = l by omega]; exact j19⟩, j21, fun k q1 q2 => by rw [show k = l by omega]; exact j20, fun q => ?_, ?_, ?_, by rw [d4', j24.2.1], by rw [d5', j24.1.r (by decide) la], ?_, Ci.trans j24.ci d3, by rw [d7, j24.2.1], by have := j24.2.2; omega, d10, j25⟩
        · obtain ⟨q1, q2⟩ := j22 q
          exact ⟨q1, fun k q3 q4 => by rw [show k = l by omega]; exact q2⟩
        · exact j23.same (d2.i (by decide) (by have := hp1.1; omega)) (d2.i (by decide) (by have := hp1.1; omega)) rfl rfl
        · rw [j24.2.1] at d6
          have er : List.range' l (l + 1 - l) = [l] := by rw [show l + 1 - l = 1 by omega]; rfl
          rw [er]
          show Arr p2 (mC p) (S ++ (litS (rwD r1 x) (fun _ => n) l ++ ((if pa = true then [570000] else []) ++ (if po = true then [560000] else []))))
          rw [← List.append_assoc]
          exact d6
        · exact Ch.trans (j24.1.mono (fun _ z => List.mem_cons_of_mem _ (List.mem_cons_of_mem _ z)) (fun _ z => z) (fun _ z => z)) (d2.mono (by decide) (fun _ z => z) (fun _ z => z))
    · right
      rw [u1, u2, bn_s]
      obtain ⟨cc, qq, v1, v2, v3⟩ := u3
      refine ⟨p1, r1, rfl, ?_, ⟨cc, qq, v1, v2, v3⟩, u4, u5⟩
      unfold R_cond_45
      rw [is_f v3, bn_s, if_pos rfl, is_f v3, bn_s, if_pos rfl, if_pos rfl]
      obtain ⟨fu, rfl⟩ : ∃ f, fu = f + 1 := ⟨fu - 1, by omega⟩
      show R_cond_4 (fu + 1) 0 0 r1 = _
      rw [R_cond_4.eq_2, if_pos rfl]
