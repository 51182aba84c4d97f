/-! Layer C: both sides go through an E alike, token by token -/
theorem ex_e {N : Nat} {kd pl : Nat → Nat} {x1 : Option Nat} {x2 : Int32} {c cm : Bool} {S0 : List Int32} {B : List Nat} {c0 : Nat} {p0 r0 : Mem} {t0 i0 : Nat} (hB : Bok B) (h51 : 51 ≤ mC p0) (h82 : 82 ≤ mC r0) (hc0 : c0 ≤ 12000) : ∀ (d : Nat), d ≤ 501 →
    (∀ p r t i st g fu n L V, 501 - t ≤ d → Jx N kd pl c cm S0 B c0 p0 r0 t0 i0 p r t i st L V → (st = 1 ∨ (st = 0 ∧ kd t ≠ 58 ∧ kd t ≠ 59)) → g + i = FU → d < fu → d + 1 < n →
      XOut N kd pl x1 x2 c cm S0 B c0 p0 r0 t0 i0 (P_Parser_takeFormula_10 g x1 x2 (nj i) p) (R_expression_23 (fun z0 z1 z2 => R_expression_12 n z0 z1 z2) fu 0 r)) ∧
    (∀ p r t i g fu n L V, 501 - t ≤ d → Jx N kd pl c cm S0 B c0 p0 r0 t0 i0 p r t i 3 L V → g + i = FU → d < fu → d + 1 < n →
      XOut N kd pl x1 x2 c cm S0 B c0 p0 r0 t0 i0 (P_Parser_takeFormula_10 g x1 x2 (nj i) p) (R_expression_96 (fun z0 z1 z2 => R_expression_12 n z0 z1 z2) fu 0 r))
  | 0, _ => ⟨fun p r t i st g fu n L V h j => absurd j.2.1 (by have := j.1.2.1; omega), fun p r t i g fu n L V h j => absurd j.2.1 (by have := j.1.2.1; omega)⟩
  | d + 1, hd501 => by
    obtain ⟨ihA, ihB⟩ := ex_e (N := N) (kd := kd) (pl := pl) (x1 := x1) (x2 := x2) (c := c) (cm := cm) (S0 := S0) (B := B) (c0 := c0) (p0 := p0) (r0 := r0) (t0 := t0) (i0 := i0) hB h51 h82 hc0 d (by omega)
    constructor
    · intro p r t i st g fu n L V hd j hst hg hfu hn
      obtain ⟨j1, j2, j3, j4, j5, j6, j7, j8, j9, j10, j11, j12, j13, j14, j15, j16, j17, j18⟩ := j
      obtain ⟨fu, rfl⟩ : ∃ f, fu = f + 1 := ⟨fu - 1, by omega⟩
      have hN := j1.2.1
      obtain ⟨k1, k2, k3, k4, k5, k6, k7, k8⟩ := j1.2.2.2.2 t j2
      have hFU : FU = FU := rfl
      obtain ⟨g, rfl⟩ : ∃ f, g = f + 1 := ⟨g - 1, by unfold FU at hg; omega⟩
      have hp : 51 ≤ mC p := by rw [j17.2.1]; exact h51
      have hr : 82 ≤ mC r := by rw [j18.2.1]; exact h82
      have hV := wl_20 j9 j10
      have hl : (S0 ++ L.map enN).length + (V.map eW ++ B).length < 500 := by simp; omega
      have hst' : st = 1 ∨ st = 0 := by omega
      rw [tf_it j3 (by omega) k3 j6.2.1 (by omega) (by omega) (by omega), if_neg (by omega), R_expression_23.eq_2, is_r j5 j4 (by omega) k4 k1 14 (by omega) (x := 6) rfl, bn_s]
      by_cases z14 : kd t = 14
      · rw [decide_eq_true z14, tI_t, if_neg (show ¬ (1 : Int32) = 0 by decide), j7.1, z14]
        by_cases z6 : cnt V = 6
        · rw [if_pos (by rw [z6]; rfl)]
          rw [z6] at j6
          rw [u_room j6 hst', bn_s]
          obtain ⟨p', a1, a2⟩ := tf_fail (x1 := x1) (x2 := x2) (fu := g) (i := i) 2 (Or.inr rfl) j3 (by omega)
          obtain ⟨r1, b1, b2, b3⟩ := fail_r (c := 2) j5 j4 (by omega) k6 (Or.inr rfl)
          have b1' : R_fail 2 r = _ := b1
          have e9 : mI r1 1590 0 = nj V.length := by
            unfold R_fail at b1'
            rw [j5, if_pos (by decide), vb_e, k_mI_sI (by omega), j4, inb_nj (by omega), gd_t (decide_eq_true (by omega)), vb_e] at b1'
            rw [← (Prod.mk.inj (Option.some.inj b1')).2, k_mI_sI (by omega), k_mI_sI (by omega)]
            exact j7.2.1
          rw [b1', bn_s]
          obtain ⟨fu', rfl⟩ : ∃ f, fu = f + 1 := ⟨fu - 1, by omega⟩
          obtain ⟨r2, d1, d2, d3⟩ := R46_f (k12 := fun z0 z1 z2 => R_expression_12 n z0 z1 z2) (k23 := fun z0 z1 => R_expression_23 (fun z0 z1 z2 => R_expression_12 n z0 z1 z2) (fu' + 1) z0 z1) (y := 0) b2 e9 (by omega)
          refine Or.inr ⟨p', r2, a1, ?_, a2.fld (p0 := p0) j1 j2 d2, Cf.cg j17 a2.2.2.1, Rx.trans j18 (Rx.trans (b3 c0) (d3 c0))⟩
          rw [d1]
          exact R23_f d2
        · rw [if_neg (by rw [nj_eq_l (by omega) (by omega)]; exact z6)]
          obtain ⟨m, a1, a2, a3, a4⟩ := u_open (x2 := Int64.toInt32 (aL p 20 t)) j6 hst' (by omega) hl
          rw [a1, bn_s]
          have hm : mI m 779 22 = nj t := by rw [a4]; exact j3
          have hcf := Cf.trans j17 a3
          rcases tf_adv (x1 := x1) (x2 := x2) (fu := g) (i := i) (Q := fun m' => Fs m' c 1 (cnt V + 1) cm (S0 ++ L.map enN) (14 :: (V.map eW ++ B))) hp (by omega) hm a4 a3 a2.2.2.2.2.1 (fun x => a2.s779 x) with ⟨w, p', b1, b2, b3, b4⟩ | ⟨w, p', b1, b2⟩
          · rw [b1]
            clear k7 k8
            have hnx := j1.nxt j2 (by omega) w
            have e46 : R_expression_46 (fun z0 z1 z2 => R_expression_12 n z0 z1 z2) (fun z0 z1 => R_expression_23 (fun z0 z1 z2 => R_expression_12 n z0 z1 z2) fu z0 z1) 0 r = R_expression_23 (fun z0 z1 z2 => R_expression_12 n z0 z1 z2) fu 0 (sI (wI (sI (sI r 1548 0 (nj (cnt V + 1))) 1547 0 (nj (t + 1))) 36 V.length 6) 1590 0 (nj (V.length + 1))) := by
              unfold R_expression_46
              rw [vb_e, j7.1, nj_add_l, (next_r (r := sI r 1548 0 (nj (cnt V + OfNat.ofNat 1))) (q := pl t) (by rw [k_mI_sI (by omega)]; exact j5) (by rw [k_mI_sI (by omega)]; exact j4) (by omega) (by rw [k_aI_sI]; exact k6)).1 w, bn_s, k_mI_sI (by omega), k_mI_sI (by omega), j7.2.1, inb_nj (by omega), gd_t (decide_eq_true (by omega)), vb_e, vb_e, k_mI_wI, k_mI_sI (by omega), k_mI_sI (by omega), j7.2.1, nj_add_l, ix_nj (by omega)]
            rw [e46]
            have hx : Rx c0 r (sI (wI (sI (sI r 1548 0 (nj (cnt V + 1))) 1547 0 (nj (t + 1))) 36 V.length 6) 1590 0 (nj (V.length + 1))) := (((Rx.rfl.sI (by decide)).sI (by decide)).wI (by decide) (Or.inr rfl)).sI (by decide)
            refine ihA p' _ (t + 1) (i + 1) 1 g fu n L (14 :: V) (by omega) ⟨(j1.cf b4 hp).rx hx hr, hnx, b3, ?_, ?_, by rw [cnt_14]; exact b2, j7.push ?_ ?_ ?_ ?_ ?_ ?_, ?_, ⟨j9, Or.inl rfl⟩, by rw [cnt_14]; omega, ?_, by simp only [List.length_cons]; omega, by omega, by omega, Or.inl (by omega), by omega, Cf.trans j17 b4, Rx.trans j18 hx⟩ (Or.inl rfl) (by omega) (by omega) (by omega)
            · rw [k_mI_sI (by omega), k_mI_wI, k_mI_sI_e, up1_ap, if_pos rfl]
            · rw [k_mI_sI (by omega), k_mI_wI, k_mI_sI (by omega), k_mI_sI (by omega)]; exact j5
            · rw [k_mI_sI (by omega), k_mI_wI, k_mI_sI (by omega), k_mI_sI_e, up1_ap, if_pos rfl, cnt_14]
            · rw [k_mI_sI_e, up1_ap, if_pos rfl]
            · rw [k_aI_sI, k_aI_wI_e, k_aI_sI, k_aI_sI]; rfl
            · rw [k_mI_sI (by omega), k_mI_wI, k_mI_sI (by omega), k_mI_sI (by omega)]
            · rw [k_aI_sI, k_aI_wI (by omega), k_aI_sI, k_aI_sI]
            · rw [k_aI_sI, k_aI_wI (by omega), k_aI_sI, k_aI_sI]
            · intro v hv
              rcases List.mem_cons.mp hv with e | e
              · rw [e]; exact Or.inr (Or.inr (Or.inr (Or.inr rfl)))
              · exact j8 v e
            · rw [if_neg (by omega)] at j11 ⊢
              rw [cnt_14, List.length_cons, show V.length + 1 - (cnt V + 1) = V.length - cnt V by omega]
              exact j11
          · rw [b1]
            unfold R_expression_46
            obtain ⟨r1, d1, d2, d3⟩ := (next_r (r := sI r 1548 0 (nj (cnt V + OfNat.ofNat 1))) (q := pl t) (by rw [k_mI_sI (by omega)]; exact j5) (by rw [k_mI_sI (by omega)]; exact j4) (by omega) (by rw [k_aI_sI]; exact k6)).2 w
            have e9 : mI r1 1590 0 = nj V.length := by
              unfold R_next R_fail at d1
              rw [k_mI_sI (by omega), j4, if_pos (by rw [nj_eq_l (by omega) (by omega)]; exact w), k_mI_sI (by omega), j5, if_pos (by decide), vb_e, k_mI_sI (by omega), k_mI_sI (by omega), j4, inb_nj (by omega), gd_t (decide_eq_true (by omega)), vb_e, bn_s] at d1
              rw [← (Prod.mk.inj (Option.some.inj d1)).2, k_mI_sI (by omega), k_mI_sI (by omega), k_mI_sI (by omega)]
              exact j7.2.1
            rw [vb_e, j7.1, nj_add_l, d1, bn_s, e9, inb_nj (by omega), gd_t (decide_eq_true (by omega)), vb_e, vb_e]
            obtain ⟨fu', rfl⟩ : ∃ f, fu = f + 1 := ⟨fu - 1, by omega⟩
            have d2' : Rf (sI (wI r1 36 (ix (nj V.length)) 6) 1590 0 (mI (wI r1 36 (ix (nj V.length)) 6) 1590 0 + 1)) 2 (pl t) := ⟨d2.1, by rw [k_mI_sI (by omega), k_mI_wI]; exact d2.2.1, by rw [k_mI_sI (by omega), k_mI_wI]; exact d2.2.2.1, by rw [k_mI_sI (by omega), k_mI_wI]; exact d2.2.2.2⟩
            refine Or.inr ⟨p', _, rfl, R23_f d2', b2.fld (p0 := p0) j1 j2 d2', Cf.cg j17 b2.2.2.1, Rx.trans j18 ((((Rx.rfl.sI (by decide)).trans (d3 c0)).wI (by decide) (Or.inr rfl)).sI (by decide))⟩
      · rw [decide_eq_false z14, tI_f, if_pos rfl]
        unfold R_expression_84 R_unit
        rw [is_r j5 j4 (by omega) k4 k1 3 (by omega) (x := 2) rfl, bn_s]
        by_cases zo : kd t = 3 ∨ (20 ≤ kd t ∧ kd t ≤ 31)
        · -- an operand
          obtain ⟨kk, vv, hkv, hvv, hR⟩ : ∃ kk vv, (nj (kd t) * 10000 + if kd t = 3 then Int64.toInt32 (aL p 20 t) else 0) = enN (kk, vv) ∧ ((kk = 0 ∧ vv ≤ 9999) ∨ (kk = 1 ∧ vv < 12)) ∧
              (if tI (decide (kd t = 3)) = 0 then (if mI r 1549 0 = 0 then gd (inb (mI r 1547 0) 503) (if aI r 3 (ix (mI r 1547 0)) < 48 then R_unit_88 r else gd (inb (mI r 1547 0) 503) (if 59 < aI r 3 (ix (mI r 1547 0)) then R_unit_88 r else gd (inb (mI r 1547 0) 503) (bn (R_emit 1 (aI r 3 (ix (mI r 1547 0)) - 48) r) fun _ m13 => bn (R_next m13) fun _ m17 => some ((), m17)))) else R_unit_88 r)
                else gd (inb (mI r 1547 0) 503) (bn (R_emit 0 (aI r 5 (ix (mI r 1547 0))) r) fun _ m22 => bn (R_next m22) fun _ m26 => some ((), m26))) = bn (R_emit (nj kk) (nj vv) r) fun _ m22 => bn (R_next m22) fun _ m26 => some ((), m26) := by
            have gg : ∀ {β : Type} (z : Option β), gd (inb (nj t) 503) z = z := fun z => by rw [inb_nj (by omega), gd_t (decide_eq_true (by omega))]
            by_cases z3 : kd t = 3
            · obtain ⟨v, v1, v2, v3⟩ := k8 z3
              refine ⟨0, v, by rw [if_pos z3, v2, z3, int_e], Or.inl ⟨rfl, v1⟩, ?_⟩
              rw [decide_eq_true z3, tI_t, if_neg (show ¬ (1 : Int32) = 0 by decide), j4, gg, ix_nj (by omega), v3]
              rfl
            · obtain ⟨w1, w2, w3, w4⟩ := var_e (kd t) k1 (by omega) (by omega)
              refine ⟨1, kd t - 20, by rw [if_neg z3, w1], Or.inr ⟨rfl, by omega⟩, ?_⟩
              rw [decide_eq_false z3, tI_f, if_pos rfl, j5, if_pos rfl, j4, gg, gg, gg, ix_nj (by omega), k4, if_neg w3, if_neg w4, w2]
              rfl
          obtain ⟨m, a1, a2, a3, a4⟩ := u_opd (x2 := Int64.toInt32 (aL p 20 t)) j6 hst' zo hl
          rw [a1, bn_s, hR]
          rw [hkv, List.append_assoc] at a2
          have es : S0 ++ (L.map enN ++ [enN (kk, vv)]) = S0 ++ (L ++ [(kk, vv)]).map enN := by rw [List.map_append]; rfl
          rw [es] at a2
          obtain ⟨r1, e1, e2, e3, e4, e5, e6⟩ := emit_e (k := kk) (v := vv) j7 (by omega)
          rw [e1, bn_s]
          have hm : mI m 779 22 = nj t := by rw [a4]; exact j3
          have h0' : mI r1 1549 0 = 0 := by rw [e5]; exact j5
          have h7' : mI r1 1547 0 = nj t := by rw [e4]; exact j4
          have h4' : aI r1 4 t = nj (pl t) := by rw [(e3.1.2.2.2 4 (by decide) (fun z => z) (by omega)).1]; exact k6
          have hwf : wfL (L ++ [(kk, vv)]) 0 (V.length - cnt V + if (3 : Nat) = 3 then 1 else 0) := by
            rw [if_neg (by omega)] at j11
            have := wl_opn j9 j10
            refine wfL_app ?_ L 0 j11
            refine ⟨by omega, ?_⟩
            rcases hvv with ⟨q1, q2⟩ | ⟨q1, q2⟩
            · exact Or.inl ⟨q1, q2, rfl⟩
            · exact Or.inr (Or.inl ⟨q1, q2, rfl⟩)
          rcases tf_adv (x1 := x1) (x2 := x2) (fu := g) (i := i) (Q := fun m' => Fs m' c 3 (cnt V) cm (S0 ++ (L ++ [(kk, vv)]).map enN) (V.map eW ++ B)) hp (by omega) hm a4 a3 a2.2.2.2.2.1 (fun x => a2.s779 x) with ⟨w, p', b1, b2, b3, b4⟩ | ⟨w, p', b1, b2⟩
          · clear k7 k8
            have hnx := j1.nxt j2 (by omega) w
            rw [b1, (next_r h0' h7' (by omega) h4').1 w, bn_s, bn_s, k_mI_sI (by omega), h0', if_pos (by decide)]
            have hx : Rx c0 r (sI r1 1547 0 (nj (t + 1))) := e3.sI (by decide)
            refine ihB p' _ (t + 1) (i + 1) g FU n (L ++ [(kk, vv)]) V (by omega) ⟨(j1.cf b4 hp).rx hx hr, hnx, b3, by rw [k_mI_sI_e, up1_ap, if_pos rfl], by rw [k_mI_sI (by omega)]; exact h0', b2, e2.same (by rw [k_mI_sI (by omega)]) (by rw [k_mI_sI (by omega)]) (by rw [k_aI_sI]) (by rw [k_mI_sI (by omega)]) (by rw [k_aI_sI]) (by rw [k_aI_sI]), j8, j9, j10, hwf, by simp only [List.length_append, List.length_cons, List.length_nil]; omega, by omega, by omega, Or.inl (by omega), by omega, Cf.trans j17 b4, Rx.trans j18 hx⟩ (by omega) (by unfold FU; omega) (by omega)
          · obtain ⟨r2, d1, d2, d3⟩ := (next_r h0' h7' (by omega) h4').2 w
            rw [b1, d1, bn_s, bn_s, if_neg d2.ne.2.1]
            exact Or.inr ⟨p', r2, rfl, rfl, b2.fld (p0 := p0) j1 j2 d2, Cf.cg j17 b2.2.2.1, Rx.trans j18 (Rx.trans e3 (d3 c0))⟩
        · -- none
          rw [u_syn j6 (by omega) k1 ⟨z14, by omega, by omega⟩, bn_s]
          obtain ⟨p', a1, a2⟩ := tf_fail (x1 := x1) (x2 := x2) (fu := g) (i := i) 1 (Or.inl rfl) j3 (by omega)
          obtain ⟨r1, b1, b2, b3⟩ := fail_r (c := 1) j5 j4 (by omega) k6 (Or.inl rfl)
          have b1' : R_fail 1 r = _ := b1
          have e88 : R_unit_88 r = some ((), r1) := by
            unfold R_unit_88
            rw [b1', bn_s]
          have gg : ∀ {β : Type} (z : Option β), gd (inb (nj t) 503) z = z := fun z => by rw [inb_nj (by omega), gd_t (decide_eq_true (by omega))]
          refine Or.inr ⟨p', r1, a1, ?_, a2.fld (p0 := p0) j1 j2 b2, Cf.cg j17 a2.2.2.1, Rx.trans j18 (b3 c0)⟩
          rw [decide_eq_false (by omega), tI_f, if_pos rfl, j5, if_pos rfl, j4, gg, gg, gg, ix_nj (by omega), k4, e88]
          have q := nvar_e (kd t) k1 (by omega)
          by_cases q1 : nj (kM (kd t)) < 48
          · rw [if_pos q1, bn_s, if_neg b2.ne.2.1]
          · rw [if_neg q1, if_pos (by rcases q with q | q; exact absurd q q1; exact q), bn_s, if_neg b2.ne.2.1]
    · intro p r t i g fu n L V hd j hg hfu hn
      obtain ⟨j1, j2, j3, j4, j5, j6, j7, j8, j9, j10, j11, j12, j13, j14, j15, j16, j17, j18⟩ := j
      rw [if_pos rfl] at j11
      obtain ⟨fu, rfl⟩ : ∃ f, fu = f + 1 := ⟨fu - 1, by omega⟩
      have hN := j1.2.1
      obtain ⟨k1, k2, k3, k4, k5, k6, k7, k8⟩ := j1.2.2.2.2 t j2
      have hp : 51 ≤ mC p := by rw [j17.2.1]; exact h51
      have hr : 82 ≤ mC r := by rw [j18.2.1]; exact h82
      have hV := wl_20 j9 j10
      have hl : (S0 ++ L.map enN).length + (V.map eW ++ B).length < 500 := by simp; omega
      have hW := eW_1000 j8 hB
      rw [R_expression_96.eq_2, is_r j5 j4 (by omega) k4 k1 15 (by omega) (x := 7) rfl, bn_s]
      by_cases z15 : kd t = 15 ∧ 0 < cnt V
      · obtain ⟨o1, V', o2, o3⟩ := stO_open (lim := 1) (by omega) (by omega) (B := B) V j8 z15.2
        obtain ⟨g, rfl⟩ : ∃ f, g = f + 1 := ⟨g - 1, by unfold FU at hg; omega⟩
        clear k7 k8
        have hlen := pO_len false V
        have hcn := pO_cnt false V
        obtain ⟨op1, op2, op3⟩ := pO_op false V j8
        have hwf := wfL_out (s := false) j11 j8 j9 j10
        have hwl := (pO_wl (s := false) V j9 j8).1
        rw [o2] at hlen hcn op1 hwf hwl
        rw [cnt_14] at hcn hwf
        simp only [List.length_cons] at hlen hwf
        rw [tf_it j3 (by omega) k3 j6.2.1 (by omega) (by omega) (by omega), if_pos (Or.inl rfl), z15.1]
        have j6' : Fs p c 3 ((cnt V - 1) + 1) cm (S0 ++ L.map enN) (V.map eW ++ B) := by rw [show cnt V - 1 + 1 = cnt V by omega]; exact j6
        obtain ⟨m, a1, a2, a3, a4⟩ := g_close (W' := V'.map eW ++ B) j6' (by omega) hl hW (by rw [o1, o2]; rfl)
        rw [a1, bn_s, decide_eq_true rfl, tI_t, if_neg (show ¬ (1 : Int32) = 0 by decide), j7.1, if_neg (by rw [nj_le_l (by omega) (by omega)]; omega)]
        rw [o1] at a2
        have es : S0 ++ L.map enN ++ stE ((pO false V).1.map eW) = S0 ++ (L ++ cdV (pO false V).1).map enN := by rw [stE_V _ op2 op3, List.append_assoc, List.map_append]
        have a2' : Fs m c 3 (cnt V') cm (S0 ++ (L ++ cdV (pO false V).1).map enN) (V'.map eW ++ B) := by
          rw [← es, show cnt V' = cnt V - 1 by omega]
          exact a2
        have hlc : (cdV (pO false V).1).length = (pO false V).1.length := by unfold cdV; simp
        obtain ⟨r1, e1, e2, e3, e4, e5, e6⟩ := comes_e (s := false) V L r FU j7 j8 (by omega) (by omega) (by unfold FU; omega)
        have e1' : R_comesOut 0 r = some ((), r1) := e1
        rw [o2] at e2
        rw [e1', bn_s, vb_e, vb_e, k_mI_sI (by omega), e2.1, e2.2.1, cnt_14, nj_sub_l (by simp), nj_sub_l (by omega)]
        have f1 : Es (sI (sI r1 1590 0 (nj ((14 :: V').length - OfNat.ofNat 1))) 1548 0 (nj (cnt V' + 1 - OfNat.ofNat 1))) c0 (L ++ cdV (pO false V).1) V' := ⟨by rw [k_mI_sI_e, up1_ap, if_pos rfl]; rfl, by rw [k_mI_sI (by omega), k_mI_sI_e, up1_ap, if_pos rfl]; rfl, by rw [k_aI_sI, k_aI_sI]; exact e2.2.2.1.2, by rw [k_mI_sI (by omega), k_mI_sI (by omega)]; exact e2.2.2.2.1, by unfold Seg; rw [k_aI_sI, k_aI_sI]; exact e2.2.2.2.2⟩
        have h0' : mI (sI (sI r1 1590 0 (nj ((14 :: V').length - OfNat.ofNat 1))) 1548 0 (nj (cnt V' + 1 - OfNat.ofNat 1))) 1549 0 = 0 := by rw [k_mI_sI (by omega), k_mI_sI (by omega), e5]; exact j5
        have h7' : mI (sI (sI r1 1590 0 (nj ((14 :: V').length - OfNat.ofNat 1))) 1548 0 (nj (cnt V' + 1 - OfNat.ofNat 1))) 1547 0 = nj t := by rw [k_mI_sI (by omega), k_mI_sI (by omega), e4]; exact j4
        have h4' : aI (sI (sI r1 1590 0 (nj ((14 :: V').length - OfNat.ofNat 1))) 1548 0 (nj (cnt V' + 1 - OfNat.ofNat 1))) 4 t = nj (pl t) := by rw [k_aI_sI, k_aI_sI, (e3.1.2.2.2 4 (by decide) (fun z => z) (by omega)).1]; exact k6
        have hx1 : Rx c0 r (sI (sI r1 1590 0 (nj ((14 :: V').length - OfNat.ofNat 1))) 1548 0 (nj (cnt V' + 1 - OfNat.ofNat 1))) := (e3.sI (by decide)).sI (by decide)
        generalize sI (sI r1 1590 0 (nj ((14 :: V').length - OfNat.ofNat 1))) 1548 0 (nj (cnt V' + 1 - OfNat.ofNat 1)) = r2 at *
        have hm : mI m 779 22 = nj t := by rw [a4]; exact j3
        rcases tf_adv (x1 := x1) (x2 := x2) (fu := g) (i := i) (Q := fun m' => Fs m' c 3 (cnt V') cm (S0 ++ (L ++ cdV (pO false V).1).map enN) (V'.map eW ++ B)) hp (by omega) hm a4 a3 a2'.2.2.2.2.1 (fun x => a2'.s779 x) with ⟨w, p', b1, b2, b3, b4⟩ | ⟨w, p', b1, b2⟩
        · have hnx := j1.nxt j2 (by omega) w
          rw [b1, (next_r h0' h7' (by omega) h4').1 w, bn_s]
          have hx : Rx c0 r (sI r2 1547 0 (nj (t + 1))) := hx1.sI (by decide)
          refine ihB p' _ (t + 1) (i + 1) g fu n (L ++ cdV (pO false V).1) V' (by omega) ⟨(j1.cf b4 hp).rx hx hr, hnx, b3, by rw [k_mI_sI_e, up1_ap, if_pos rfl], by rw [k_mI_sI (by omega)]; exact h0', b2, f1.same (by rw [k_mI_sI (by omega)]) (by rw [k_mI_sI (by omega)]) (by rw [k_aI_sI]) (by rw [k_mI_sI (by omega)]) (by rw [k_aI_sI]) (by rw [k_aI_sI]), fun v hv => op1 v (by simp [hv]), hwl.1, by omega, ?_, by rw [List.length_append, hlc]; omega, by omega, by omega, Or.inl (by omega), by omega, Cf.trans j17 b4, Rx.trans j18 hx⟩ (by omega) (by omega) (by omega)
          rw [if_pos rfl]
          rw [show V'.length + 1 - (cnt V' + 1) + 1 = V'.length - cnt V' + 1 by omega] at hwf
          exact hwf
        · obtain ⟨r3, d1, d2, d3⟩ := (next_r h0' h7' (by omega) h4').2 w
          rw [b1, d1, bn_s]
          have f3 : Es r3 c0 (L ++ cdV (pO false V).1) V' := by
            have d4 := d1
            unfold R_next R_fail at d4
            rw [h7', if_pos (by rw [nj_eq_l (by omega) (by omega)]; exact w), h0', if_pos (by decide), vb_e, k_mI_sI (by omega), h7', inb_nj (by omega), gd_t (decide_eq_true (by omega)), vb_e, bn_s] at d4
            rw [← (Prod.mk.inj (Option.some.inj d4)).2]
            exact f1.same (by rw [k_mI_sI (by omega), k_mI_sI (by omega)]) (by rw [k_mI_sI (by omega), k_mI_sI (by omega)]) (by rw [k_aI_sI, k_aI_sI]) (by rw [k_mI_sI (by omega), k_mI_sI (by omega)]) (by rw [k_aI_sI, k_aI_sI]) (by rw [k_aI_sI, k_aI_sI])
          obtain ⟨fu', rfl⟩ : ∃ f, fu = f + 1 := ⟨fu - 1, by omega⟩
          obtain ⟨r4, q1, q2, q3⟩ := R96_f (k12 := fun z0 z1 z2 => R_expression_12 n z0 z1 z2) (fu := fu') (y := 0) d2 f3 (fun v hv => op1 v (by simp [hv])) (by omega) (by rw [List.length_append, hlc]; omega)
          exact Or.inr ⟨p', r4, rfl, q1, b2.fld (p0 := p0) j1 j2 q2, Cf.cg j17 b2.2.2.1, Rx.trans j18 (Rx.trans hx1 (Rx.trans (d3 c0) q3))⟩
      · have e145 : (if tI (decide (kd t = 15)) = 0 then R_expression_145 (fun z0 z1 z2 => R_expression_12 n z0 z1 z2) 0 r else if mI r 1548 0 ≤ 0 then R_expression_145 (fun z0 z1 z2 => R_expression_12 n z0 z1 z2) 0 r else bn (R_comesOut 0 r) fun _ m8 => vb (sI m8 1590 0 (mI m8 1590 0 - 1)) fun m12 => vb (sI m12 1548 0 (mI m12 1548 0 - 1)) fun m14 => bn (R_next m14) fun _ m16 => R_expression_96 (fun z0 z1 z2 => R_expression_12 n z0 z1 z2) fu 0 m16) = R_expression_145 (fun z0 z1 z2 => R_expression_12 n z0 z1 z2) 0 r := by
          by_cases y : kd t = 15
          · rw [decide_eq_true y, tI_t, if_neg (show ¬ (1 : Int32) = 0 by decide), j7.1, if_pos (by rw [nj_le_l (by omega) (by omega)]; omega)]
          · rw [decide_eq_false y, tI_f, if_pos rfl]
        rw [e145]
        have is' : ∀ (k' : Nat), k' < 60 → ∀ {x : Int32}, x = nj (kM k') → R_is x r = some (tI (decide (kd t = k')), r) := fun k' h' {x} hx => is_r j5 j4 (by omega) k4 k1 k' h' hx
        unfold R_expression_145 R_expression_181
        rw [is' 6 (by omega) (x := 8) rfl, bn_s, is' 7 (by omega) (x := 9) rfl, bn_s, is' 8 (by omega) (x := 10) rfl, bn_s, is' 9 (by omega) (x := 15) rfl, bn_s]
        by_cases zo : 6 ≤ kd t ∧ kd t ≤ 9
        · clear k7 k8
          obtain ⟨g, rfl⟩ : ∃ f, g = f + 1 := ⟨g - 1, by unfold FU at hg; omega⟩
          have e186 : (if tI (decide (kd t = 6)) = 0 then if tI (decide (kd t = 7)) = 0 then if tI (decide (kd t = 8)) = 0 then if tI (decide (kd t = 9)) = 0 then R_expression_186 (fun z0 z1 z2 => R_expression_12 n z0 z1 z2) 0 0 r else R_expression_186 (fun z0 z1 z2 => R_expression_12 n z0 z1 z2) 0 1 r else R_expression_186 (fun z0 z1 z2 => R_expression_12 n z0 z1 z2) 0 1 r else R_expression_186 (fun z0 z1 z2 => R_expression_12 n z0 z1 z2) 0 1 r else R_expression_186 (fun z0 z1 z2 => R_expression_12 n z0 z1 z2) 0 1 r) = R_expression_234 (fun z0 z1 z2 => R_expression_12 n z0 z1 z2) 0 1 (tI (decide (8 ≤ kd t))) r := by
            have e : R_expression_186 (fun z0 z1 z2 => R_expression_12 n z0 z1 z2) 0 1 r = R_expression_234 (fun z0 z1 z2 => R_expression_12 n z0 z1 z2) 0 1 (tI (decide (8 ≤ kd t))) r := by
              unfold R_expression_186 R_expression_229
              rw [if_neg (show ¬ (1 : Int32) = 0 by decide), is' 8 (by omega) (x := 10) rfl, bn_s, is' 9 (by omega) (x := 15) rfl, bn_s]
              by_cases y8 : kd t = 8
              · rw [decide_eq_true y8, tI_t, if_neg (show ¬ (1 : Int32) = 0 by decide), decide_eq_true (by omega), tI_t]
              · rw [decide_eq_false y8, tI_f, if_pos rfl]
                by_cases y9 : kd t = 9
                · rw [decide_eq_true y9, tI_t, if_neg (show ¬ (1 : Int32) = 0 by decide), decide_eq_true (by omega), tI_t]
                · rw [decide_eq_false y9, tI_f, if_pos rfl, decide_eq_false (by omega), tI_f]
            rw [e]
            by_cases y6 : kd t = 6
            · rw [decide_eq_true y6, tI_t, if_neg (show ¬ (1 : Int32) = 0 by decide)]
            · rw [decide_eq_false y6, tI_f, if_pos rfl]
              by_cases y7 : kd t = 7
              · rw [decide_eq_true y7, tI_t, if_neg (show ¬ (1 : Int32) = 0 by decide)]
              · rw [decide_eq_false y7, tI_f, if_pos rfl]
                by_cases y8 : kd t = 8
                · rw [decide_eq_true y8, tI_t, if_neg (show ¬ (1 : Int32) = 0 by decide)]
                · rw [decide_eq_false y8, tI_f, if_pos rfl, decide_eq_true (by omega), tI_t, if_neg (show ¬ (1 : Int32) = 0 by decide)]
          rw [e186]
          have erk : rk (kd t) = if decide (8 ≤ kd t) = true then 6 else 5 := by
            unfold rk
            by_cases y8 : 8 ≤ kd t
            · rw [if_neg (by omega), if_pos (by omega), if_pos (decide_eq_true y8)]
            · rw [if_pos (by omega), if_neg (by rw [decide_eq_false y8]; decide)]
          have hse : ∀ q, q = decide (8 ≤ kd t) → (q = true → 8 ≤ kd t) ∧ (q = false → kd t ≤ 7) := by
            rintro q rfl
            exact ⟨fun w => of_decide_eq_true w, fun w => by have := of_decide_eq_false w; omega⟩
          obtain ⟨hs1, hs2⟩ := hse _ rfl
          have est := stO_pO (s := decide (8 ≤ kd t)) hB V j8
          rw [← erk] at est
          generalize decide (8 ≤ kd t) = s at *
          have hlen := pO_len s V
          have hcn := pO_cnt s V
          obtain ⟨op1, op2, op3⟩ := pO_op s V j8
          have hwf := wfL_out (s := s) j11 j8 j9 j10
          obtain ⟨hwl, hhd⟩ := pO_wl (s := s) V j9 j8
          have hlc : (cdV (pO s V).1).length = (pO s V).1.length := by unfold cdV; simp
          have hcl := cnt_le (pO s V).2
          rw [tf_it j3 (by omega) k3 j6.2.1 (by omega) (by omega) (by omega), if_pos (Or.inl rfl)]
          obtain ⟨m, a1, a2, a3, a4⟩ := g_op j6 hl hW k1 zo
          rw [a1, bn_s]
          rw [est] at a2
          have es : S0 ++ L.map enN ++ stE ((pO s V).1.map eW) = S0 ++ (L ++ cdV (pO s V).1).map enN := by rw [stE_V _ op2 op3, List.append_assoc, List.map_append]
          have eV : (rk (kd t) * 100 + kd t) :: ((pO s V).2.map eW ++ B) = (kd t :: (pO s V).2).map eW ++ B := by
            show _ = eW (kd t) :: ((pO s V).2.map eW ++ B)
            unfold eW
            rw [if_neg (by omega)]
          have a2' : Fs m c 1 (cnt (kd t :: (pO s V).2)) cm (S0 ++ (L ++ cdV (pO s V).1).map enN) ((kd t :: (pO s V).2).map eW ++ B) := by
            rw [← es, ← eV, cnt_ne _ (by omega), hcn]
            exact a2
          obtain ⟨r1, e1, e2, e3, e4, e5, e6⟩ := comes_e (s := s) V L r FU j7 j8 (by omega) (by omega) (by unfold FU; omega)
          have e1' : R_comesOut (tI s) r = some ((), r1) := e1
          unfold R_expression_234
          have e3k : aI r1 3 t = nj (kM (kd t)) := by rw [(e3.1.2.2.2 3 (by decide) (fun z => z) (by omega)).1]; exact k4
          have h7r : mI r1 1547 0 = nj t := by rw [e4]; exact j4
          rw [e1', bn_s, h7r, inb_nj (by omega), gd_t (decide_eq_true (by omega)), e2.2.1, inb_nj (by omega), gd_t (decide_eq_true (by omega)), vb_e, vb_e, k_mI_wI, e2.2.1, nj_add_l, ix_nj (by omega), ix_nj (by omega), e3k]
          have f1 : Es (sI (wI r1 36 (pO s V).2.length (nj (kM (kd t)))) 1590 0 (nj ((pO s V).2.length + OfNat.ofNat 1))) c0 (L ++ cdV (pO s V).1) (kd t :: (pO s V).2) := e2.push (by rw [k_mI_sI (by omega), k_mI_wI, cnt_ne _ (by omega)]; exact e2.1) (by rw [k_mI_sI_e, up1_ap, if_pos rfl]) (by rw [k_aI_sI, k_aI_wI_e]) (by rw [k_mI_sI (by omega), k_mI_wI]) (by rw [k_aI_sI, k_aI_wI (by omega)]) (by rw [k_aI_sI, k_aI_wI (by omega)])
          have h0' : mI (sI (wI r1 36 (pO s V).2.length (nj (kM (kd t)))) 1590 0 (nj ((pO s V).2.length + OfNat.ofNat 1))) 1549 0 = 0 := by rw [k_mI_sI (by omega), k_mI_wI, e5]; exact j5
          have h7' : mI (sI (wI r1 36 (pO s V).2.length (nj (kM (kd t)))) 1590 0 (nj ((pO s V).2.length + OfNat.ofNat 1))) 1547 0 = nj t := by rw [k_mI_sI (by omega), k_mI_wI, e4]; exact j4
          have h4' : aI (sI (wI r1 36 (pO s V).2.length (nj (kM (kd t)))) 1590 0 (nj ((pO s V).2.length + OfNat.ofNat 1))) 4 t = nj (pl t) := by rw [k_aI_sI, k_aI_wI (by omega), (e3.1.2.2.2 4 (by decide) (fun z => z) (by omega)).1]; exact k6
          have hx1 : Rx c0 r (sI (wI r1 36 (pO s V).2.length (nj (kM (kd t)))) 1590 0 (nj ((pO s V).2.length + OfNat.ofNat 1))) := (e3.wI (by decide) (Or.inr rfl)).sI (by decide)
          generalize sI (wI r1 36 (pO s V).2.length (nj (kM (kd t)))) 1590 0 (nj ((pO s V).2.length + OfNat.ofNat 1)) = r2 at *
          have hm : mI m 779 22 = nj t := by rw [a4]; exact j3
          obtain ⟨n, rfl⟩ : ∃ f, n = f + 1 := ⟨n - 1, by omega⟩
          rcases tf_adv (x1 := x1) (x2 := x2) (fu := g) (i := i) (Q := fun m' => Fs m' c 1 (cnt (kd t :: (pO s V).2)) cm (S0 ++ (L ++ cdV (pO s V).1).map enN) ((kd t :: (pO s V).2).map eW ++ B)) hp (by omega) hm a4 a3 a2'.2.2.2.2.1 (fun x => a2'.s779 x) with ⟨w, p', b1, b2, b3, b4⟩ | ⟨w, p', b1, b2⟩
          · have hnx := j1.nxt j2 (by omega) w
            have hx : Rx c0 r (sI r2 1547 0 (nj (t + 1))) := hx1.sI (by decide)
            have h0'' : mI (sI r2 1547 0 (nj (t + 1))) 1549 0 = 0 := by rw [k_mI_sI (by omega)]; exact h0'
            rw [b1, (next_r h0' h7' (by omega) h4').1 w, bn_s]
            show XOut N kd pl x1 x2 c cm S0 B c0 p0 r0 t0 i0 _ (R_expression_12 (n + 1) 0 1 _)
            rw [R_expression_12.eq_2, if_neg (show ¬ (1 : Int32) = 0 by decide), if_pos h0'']
            refine ihA p' _ (t + 1) (i + 1) 1 g FU n (L ++ cdV (pO s V).1) (kd t :: (pO s V).2) (by omega) ⟨(j1.cf b4 hp).rx hx hr, hnx, b3, by rw [k_mI_sI_e, up1_ap, if_pos rfl], h0'', b2, f1.same (by rw [k_mI_sI (by omega)]) (by rw [k_mI_sI (by omega)]) (by rw [k_aI_sI]) (by rw [k_mI_sI (by omega)]) (by rw [k_aI_sI]) (by rw [k_aI_sI]), ?_, ⟨hwl, ?_⟩, by rw [cnt_ne _ (by omega)]; omega, ?_, by rw [List.length_append, hlc, List.length_cons]; omega, by omega, by omega, Or.inl (by omega), by omega, Cf.trans j17 b4, Rx.trans j18 hx⟩ (Or.inl rfl) (by omega) (by unfold FU; omega) (by omega)
            · intro v hv
              rcases List.mem_cons.mp hv with e | e
              · rw [e]; unfold opV; omega
              · exact op1 v e
            · cases s with
              | false =>
                have := hs2 rfl
                rcases hhd with q | ⟨q, _⟩
                · exact Or.inr (Or.inl ⟨by omega, q⟩)
                · cases q
              | true =>
                have := hs1 rfl
                rcases hhd with q | ⟨_, q⟩
                · exact Or.inr (Or.inr ⟨by omega, Or.inl q⟩)
                · exact Or.inr (Or.inr ⟨by omega, Or.inr q⟩)
            · rw [if_neg (by omega), cnt_ne _ (by omega), List.length_cons, show (pO s V).2.length + 1 - cnt (pO s V).2 + 0 = (pO s V).2.length - cnt (pO s V).2 + 1 by omega]
              exact hwf
          · obtain ⟨r3, d1, d2, d3⟩ := (next_r h0' h7' (by omega) h4').2 w
            rw [b1, d1, bn_s]
            show XOut N kd pl x1 x2 c cm S0 B c0 p0 r0 t0 i0 _ (R_expression_12 (n + 1) 0 1 _)
            rw [R12_f d2]
            exact Or.inr ⟨p', r3, rfl, rfl, b2.fld (p0 := p0) j1 j2 d2, Cf.cg j17 b2.2.2.1, Rx.trans j18 (Rx.trans hx1 (d3 c0))⟩
        · rw [decide_eq_false (show ¬ kd t = 6 by omega), tI_f, if_pos rfl, decide_eq_false (show ¬ kd t = 7 by omega), tI_f, if_pos rfl, decide_eq_false (show ¬ kd t = 8 by omega), tI_f, if_pos rfl, decide_eq_false (show ¬ kd t = 9 by omega), tI_f, if_pos rfl]
          unfold R_expression_186 R_expression_191
          rw [if_pos rfl, j7.1]
          by_cases zc : cnt V = 0
          · obtain ⟨o1, o2, o3⟩ := stO_shut (lim := 5) (by omega) (B := B) V j8 zc
            obtain ⟨r1, e1, e2, e3, e4, e5, e6⟩ := comes_e (s := false) V L r FU j7 j8 (by omega) (by omega) (by unfold FU; omega)
            have hwf := wfL_out (s := false) j11 j8 j9 j10
            rw [o2] at e2 hwf
            have e204 : R_expression_204 r = some ((), r1) := by
              unfold R_expression_204
              have e1' : R_comesOut 0 r = some ((), r1) := e1
              rw [e1', bn_s]
            rw [if_pos (by rw [nj_le_l (by omega) (by omega)]; omega), e204]
            refine Or.inl ⟨p, r1, t, i, g, L, V, rfl, rfl, hg, j1.rx e3 hr, by rcases j15 with q | q; exact q; exact absurd rfl q, j2, j3, by rw [e4]; exact j4, by rw [e5]; exact j5, by rw [← zc]; exact j6, zc, j8, e2.1, e2.2.2.2.1, e2.2.2.2.2, hwf, j12, j13, j14, zo, j17, Rx.trans j18 e3⟩
          · clear k7 k8
            obtain ⟨g, rfl⟩ : ∃ f, g = f + 1 := ⟨g - 1, by unfold FU at hg; omega⟩
            rw [tf_it j3 (by omega) k3 j6.2.1 (by omega) (by omega) (by omega), if_pos (Or.inl rfl), g_syn j6 (by omega) k1 zo z15 (by omega) (Or.inl (by omega)), bn_s, if_neg (by rw [nj_le_l (by omega) (by omega)]; omega)]
            obtain ⟨p', a1, a2⟩ := tf_fail (x1 := x1) (x2 := x2) (fu := g) (i := i) 1 (Or.inl rfl) j3 (by omega)
            obtain ⟨r1, b1, b2, b3⟩ := fail_r (c := 1) j5 j4 (by omega) k6 (Or.inl rfl)
            have b1' : R_fail 1 r = some ((), r1) := b1
            have f3 : Es r1 c0 L V := by
              have d4 := b1'
              unfold R_fail at d4
              rw [j5, if_pos (by decide), vb_e, k_mI_sI (by omega), j4, inb_nj (by omega), gd_t (decide_eq_true (by omega)), vb_e] at d4
              rw [← (Prod.mk.inj (Option.some.inj d4)).2]
              exact j7.same (by rw [k_mI_sI (by omega), k_mI_sI (by omega)]) (by rw [k_mI_sI (by omega), k_mI_sI (by omega)]) (by rw [k_aI_sI, k_aI_sI]) (by rw [k_mI_sI (by omega), k_mI_sI (by omega)]) (by rw [k_aI_sI, k_aI_sI]) (by rw [k_aI_sI, k_aI_sI])
            obtain ⟨r2, e1, e2, e3, e4, e5, e6⟩ := comes_e (s := false) V L r1 FU f3 j8 (by omega) (by omega) (by unfold FU; omega)
            have e204 : R_expression_204 r1 = some ((), r2) := by
              unfold R_expression_204
              have e1' : R_comesOut 0 r1 = some ((), r2) := e1
              rw [e1', bn_s]
            rw [b1', bn_s, e204]
            have hf : Rf r2 1 (pl t) := ⟨b2.1, by rw [e5]; exact b2.2.1, by rw [e6]; exact b2.2.2.1, by rw [e4]; exact b2.2.2.2⟩
            exact Or.inr ⟨p', r2, a1, rfl, a2.fld (p0 := p0) j1 j2 hf, Cf.cg j17 a2.2.2.1, Rx.trans j18 (Rx.trans (b3 c0) e3)⟩
