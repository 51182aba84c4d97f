/-! Layer C: the loop over ITEMS, both sides -/
section Lk2
variable {N : Nat} {kd pl : Nat → Nat} {x fc s0 b0 k s l c : Nat} {p r : Mem} {t nm : Nat} {it sa ca : Nat → Nat}
theorem item_j (h : Lp N kd pl x fc s0 b0 k p r t nm l c it sa ca) (hk : k < 30) (hs : s ≤ 8) (hkd : kd t = s + 32) (n : Nat) :
    (∃ p' r' t' nm' l' c' it' sa' ca', P_Parser_takeItems_2 (n + 1) (nj k) p = P_Parser_takeItems_2 n (nj (k + 1)) p' ∧ R_tellItem r = some ((), r') ∧ Lp N kd pl x fc s0 b0 (k + 1) p' r' t' nm' l' c' it' sa' ca' ∧ Sg 5 13 (30 * x + k) l c p r p' r' t t' nm nm' ∧ l ≤ l' ∧ c ≤ c' ∧ t < t') ∨
    (∃ p' r', P_Parser_takeItems_2 (n + 1) (nj k) p = some (0, p') ∧ R_tellItem r = some ((), r') ∧ Bl 5 13 (30 * x + k) l c t nm p r p' r') := by
  have hh := h
  obtain ⟨hP, ht, hk30, hx, h14, h0, h8, h783, h514, h782, hb0, hI, hinj⟩ := h
  have T := hP.T
  have T1 := T.1
  have hT := hP.tN
  have h82 := hP.p82
  have hx23 : x ≤ 23 := hP.2.2.2.2.2.2.2.2.2
  have hkt := hP.kd3
  have h2 : 2 ≤ kd t := by omega
  have e779 : mI (nw p 3 0 13) 779 22 = nj t := by rw [k_mI_nw, zF_ne (by omega)]; exact hP.1.2.2.1
  have e514 : mI (nw p 3 0 13) 514 13 = nj fc := by rw [k_mI_nw, zF_ne (by omega)]; exact h514
  have e18 : aI (nw p 3 0 13) 18 = aI p 18 := by rw [k_aI_nw, zA_ne (by omega)]
  have eM : nj k + 1 = nj (k + 1) := nj_add_l k 1
  -- the class's new ITEM
  obtain ⟨i1, i2, i3, i4, i5⟩ := itP_at (p := p) (k := nj (s + 32)) (f := nj fc)
  have hC0 : Ch [782] [24] nil p (sI (wR (itP p (nj (s + 32)) (nj fc)) 24 k (some (mC p))) 782 22 (nj (k + 1))) := (((itP_Ch.mono (fun _ w => absurd w List.not_mem_nil) (fun _ w => absurd w List.not_mem_nil) (fun _ w => w)).wR (Or.inl (by decide))).sI (by decide))
  have hfr : FrP (mC p) (mC p + 1) (mC p + 2) (sI (wR (itP p (nj (s + 32)) (nj fc)) 24 k (some (mC p))) 782 22 (nj (k + 1))) := by
    obtain ⟨p1, p2, p3, p4, p5, p6, p7, p8, p9, p10, p11, p12⟩ := itP_fr (p := p) (k := nj (s + 32)) (f := nj fc) T1
    exact ⟨by rw [k_mI_sI (by omega), k_mI_wR]; exact p1, by rw [k_mI_sI (by omega), k_mI_wR]; exact p2, by rw [k_mI_sI (by omega), k_mI_wR]; exact p3, by rw [k_mI_sI (by omega), k_mI_wR]; exact p4, by rw [k_mL_sI, k_mL_wR]; exact p5, by rw [k_mR_sI, k_mR_wR]; exact p6, by rw [k_mR_sI, k_mR_wR]; exact p7, p8, p9, by unfold Arr; rw [k_mT_sI, k_mN_sI, k_aI_sI, k_mT_wR, k_mN_wR, k_aI_wR]; exact p10, by unfold Arr; rw [k_mT_sI, k_mN_sI, k_aI_sI, k_mT_wR, k_mN_wR, k_aI_wR]; exact p11, p12⟩
  have hT3 : mT (sI (wR (itP p (nj (s + 32)) (nj fc)) 24 k (some (mC p))) 782 22 (nj (k + 1))) (mC p) = 3 := by rw [k_mT_sI, k_mT_wR]; exact i1
  have hI' : ∀ f, f ≠ 782 → mI (sI (wR (itP p (nj (s + 32)) (nj fc)) 24 k (some (mC p))) 782 22 (nj (k + 1))) f (mC p) = mI (itP p (nj (s + 32)) (nj fc)) f (mC p) := fun f hf => by rw [k_mI_sI hf, k_mI_wR]
  have h24 : aR (sI (wR (itP p (nj (s + 32)) (nj fc)) 24 k (some (mC p))) 782 22 (nj (k + 1))) 24 = up1 (aR p 24) k (some (mC p)) := by
    rw [k_aR_sI, k_aR_wR_e, itP_Ch.ar (by decide) (fun w => w) (by omega)]
  have h782' : mI (sI (wR (itP p (nj (s + 32)) (nj fc)) 24 k (some (mC p))) 782 22 (nj (k + 1))) 782 22 = nj (k + 1) := by rw [k_mI_sI_e, up1_ap, if_pos rfl]
  have hC3 : mC (sI (wR (itP p (nj (s + 32)) (nj fc)) 24 k (some (mC p))) 782 22 (nj (k + 1))) = mC p + 3 := by rw [k_mC_sI, k_mC_wR]; exact itP_C.1
  have hM3 : mS (sI (wR (itP p (nj (s + 32)) (nj fc)) 24 k (some (mC p))) 782 22 (nj (k + 1))) = mS p + 13 := by rw [k_mS_sI, k_mS_wR]; exact itP_C.2
  rw [P_Parser_takeItems_2.eq_2, if_neg (by rw [nj_l_lt (by omega) (by omega)]; omega), hP.1.2.2.1, inb_nj (by omega), gd_t (decide_eq_true (by omega)), ix_nj (by omega), hkt.2.1, hkd, if_neg (by rw [nj_eq_l (by omega) (by omega)]; omega), gd_t (decide_eq_true (by omega)), P_within_e, bp_s, decide_eq_true (show (32 : Int32) ≤ nj (s + 32) ∧ nj (s + 32) ≤ 40 from ⟨by rw [nj_l_le (by omega) (by omega)]; omega, by rw [nj_le_l (by omega) (by omega)]; omega⟩), tI_t, if_neg (show ¬ (1 : Int32) = 0 by decide), if_neg (by rw [nj_eq_l (by omega) (by omega)]; omega), vb_e]
  rw [e779, inb_nj (by omega), gd_t (decide_eq_true (by omega)), e18, ix_nj (by omega), hkt.2.1, hkd, e514, P_Item_init_e, bn_s, inb_nj (by omega), gd_t (decide_eq_true hk), gt_t i1, vb_e, vb_e, gd_t (decide_eq_true hk), ix_nj (by omega), eM, h24, up1_eq, gs_s, gt_t hT3, hI' 256 (by omega), i2, mis_e h0 hs (by rw [hC0.i (by decide) (by omega)]; exact h783), bn_s]
  rw [tellI_e hP s hs hkd]
  unfold R_tellItem_121
  rw [if_neg (show ¬ nj s = -1 by rw [nj_ne_m1 (by omega)]; exact id), hx, inb_nj (by omega), gd_t (decide_eq_true (by omega)), ix_nj (by omega), h14, if_neg (show ¬ nj k = 30 by rw [nj_eq_l (by omega) (by omega)]; omega), e154_e hP.1.2.2.2.2.1 hx hx23 h8 h0 hs]
  have h257 := (hI' 257 (by omega)).trans i3
  have h256 := (hI' 256 (by omega)).trans i2
  have h266 := (hI' 266 (by omega)).trans i4
  have h267 := (hI' 267 (by omega)).trans i5
  clear hI'
  generalize sI (wR (itP p (nj (s + 32)) (nj fc)) 24 k (some (mC p))) 782 22 (nj (k + 1)) = p2 at *
  have hP2 : Pi N kd pl x p2 r t nm l c := hP.chp hC0 (by decide) (by decide)
  by_cases hm : mis s0 s = true
  · rw [hm, tI_t, if_neg (show ¬ (1 : Int32) = 0 by decide), if_pos rfl]
    obtain ⟨n1, n2, n3⟩ := hP2.nt (k := 5) (by omega) (by omega)
    have n1' : P_Parser_noteLate 5 p2 = _ := n1
    have n2' : R_wrong 5 (nj t) r = _ := n2
    unfold R_tellItem_212
    rw [n1', bn_s, hP.1.2.2.2.1, n2', bn_s]
    obtain ⟨q1, q2, q3, q4, q5, q6, q7, q8, q9⟩ := ntP_x (k := 5) (q := pl t) (m := p2)
    obtain ⟨w1, w2, w3, w4⟩ := wrR_x (k := 5) (q := pl t) (m := r)
    have hfr2 : FrP (mC p) (mC p + 1) (mC p + 2) (ntP 5 (pl t) p2) := by
      obtain ⟨p1, p2, p3, p4, p5, p6, p7, p8, p9, p10, p11, p12⟩ := hfr
      exact ⟨by rw [ntP_o (by omega) (by omega)]; exact p1, by rw [ntP_o (by omega) (by omega)]; exact p2, by rw [ntP_o (by omega) (by omega)]; exact p3, by rw [ntP_o (by omega) (by omega)]; exact p4, by rw [q8]; exact p5, by rw [q9]; exact p6, by rw [q9]; exact p7, p8, p9, by unfold Arr; rw [q6, q7, q3]; exact p10, by unfold Arr; rw [q6, q7, q3]; exact p11, p12⟩
    exact item_d hh hk hs h2 n3 (ntP_Ch (hC0.mono (by decide) (fun _ w => w) (fun _ w => w)) (by decide) (by decide)) (by rw [q6]; exact hT3) hfr2 (by rw [ntP_o (by omega) (by omega)]; exact h256) (by rw [ntP_o (by omega) (by omega)]; exact h257) (by rw [ntP_o (by omega) (by omega)]; exact h266) (by rw [ntP_o (by omega) (by omega)]; exact h267) (by rw [q5]; exact h24) (by rw [ntP_o (by omega) (by omega)]; exact h782') (by rw [q1]; exact hC3) (by rw [q2]; exact hM3) (wrR_Ch Ch.rfl (by decide) (by decide)) w1 w2 w3 w4 (fun w => absurd w (wrR_ne (by omega) (by omega)))
  · have hm' : mis s0 s = false := by
      cases e : mis s0 s
      · rfl
      · exact absurd e hm
    rw [hm', tI_f, if_pos rfl, if_neg (by decide)]
    exact item_d hh hk hs h2 hP2.pj (hC0.mono (by decide) (fun _ w => w) (fun _ w => w)) hT3 hfr h256 h257 h266 h267 h24 h782' hC3 hM3 Ch.rfl rfl rfl rfl rfl (fun w => ⟨w, hm'⟩)
end Lk2
theorem items_j {N : Nat} {kd pl : Nat → Nat} {x fc s0 b0 : Nat} : ∀ (d k : Nat) (p r : Mem) (t nm l c : Nat) (it sa ca : Nat → Nat) (n n2 : Nat), k + d = 30 → Lp N kd pl x fc s0 b0 k p r t nm l c it sa ca → d + 2 < n → d + 2 < n2 →
    (∃ k' p' r' t' nm' l' c' it' sa' ca', P_Parser_takeItems_2 n (nj k) p = some (1, p') ∧ R_read_146 n2 r = R_read_168 r' ∧ Lp N kd pl x fc s0 b0 k' p' r' t' nm' l' c' it' sa' ca' ∧ Sg (5 * d) (13 * d) (30 * x + k) l c p r p' r' t t' nm nm') ∨
    (∃ p' r', P_Parser_takeItems_2 n (nj k) p = some (0, p') ∧ R_read_146 n2 r = R_read_168 r' ∧ Bl (5 * d) (13 * d) (30 * x + k) l c t nm p r p' r') := by
  intro d
  induction d with
  | zero =>
    intro k p r t nm l c it sa ca n n2 hk h hn hn2
    obtain ⟨n, rfl⟩ : ∃ f, n = f + 1 := ⟨n - 1, by omega⟩
    obtain ⟨n2, rfl⟩ : ∃ f, n2 = f + 1 := ⟨n2 - 1, by omega⟩
    obtain ⟨n3, hn3⟩ : ∃ f, n2 = f + 1 := ⟨n2 - 1, by omega⟩
    have hh := h
    obtain ⟨hP, ht, hk30, hx, h14, h0, h8, h783, h514, h782, hb0, hI, hinj⟩ := h
    have hT := hP.tN
    have hkt := hP.kd3
    have hx23 : x ≤ 23 := hP.2.2.2.2.2.2.2.2.2
    have e0 : (nj (kd t) = 0) = (kd t = 0) := nj_eq_l (by omega) (by omega)
    rw [P_Parser_takeItems_2.eq_2, if_neg (by rw [nj_l_lt (by omega) (by omega)]; omega), hP.1.2.2.1, inb_nj (by omega), gd_t (decide_eq_true (by omega)), ix_nj (by omega), hkt.2.1, R_read_146.eq_2, if_pos hP.1.2.2.2.2.1, hP.is 0 (by omega) (y := 0) rfl, bn_s]
    by_cases z : kd t = 0
    · left
      rw [if_pos (e0.mpr z), decide_eq_true z, tI_t, if_neg (show ¬ (1 : Int32) = 0 by decide)]
      exact ⟨k, p, r, t, nm, l, c, it, sa, ca, rfl, rfl, hh, Sg.self⟩
    · right
      rw [if_neg (fun w => z (e0.mp w)), decide_eq_false z, tI_f, if_pos rfl, gd_t (decide_eq_true (by omega)), P_within_e, bp_s]
      by_cases y : 32 ≤ kd t ∧ kd t ≤ 40
      · obtain ⟨p', r', a1, a2, a3, q, a4⟩ := fail_i (a := mC p) (i := 30 * x + k) (l := l) (c := c) hP 2 (Or.inr rfl)
        have a1' : P_Parser_fail 2 p = _ := a1
        have a2' : R_fail 2 r = _ := a2
        rw [decide_eq_true (show (32 : Int32) ≤ nj (kd t) ∧ nj (kd t) ≤ 40 from ⟨by rw [nj_l_le (by omega) (by omega)]; omega, by rw [nj_le_l (by omega) (by omega)]; omega⟩), tI_t, if_neg (show ¬ (1 : Int32) = 0 by decide), if_pos (by rw [nj_eq_l (by omega) (by omega)]; omega)]
        unfold P_Parser_takeItems_59
        rw [a1', bn_s, gz_t (Or.inl rfl), tellI_e hP (kd t - 32) (by omega) (by omega)]
        unfold R_tellItem_121
        rw [if_neg (show ¬ nj (kd t - 32) = -1 by rw [nj_ne_m1 (by omega)]; exact id), hx, inb_nj (by omega), gd_t (decide_eq_true (by omega)), ix_nj (by omega), h14, if_pos (show nj k = 30 by rw [nj_eq_l (by omega) (by omega)]; omega), a2', bn_s, e154_f a4, bn_s, hn3, R_read_146.eq_2, if_neg a4.ne.1]
        exact ⟨p', r', rfl, rfl, a3.bl hP.p82⟩
      · obtain ⟨p', r', a1, a2, a3, q, a4⟩ := fail_i (a := mC p) (i := 30 * x + k) (l := l) (c := c) hP 1 (Or.inl rfl)
        have a1' : P_Parser_fail 1 p = _ := a1
        have a2' : R_fail 1 r = _ := a2
        rw [decide_eq_false (show ¬ ((32 : Int32) ≤ nj (kd t) ∧ nj (kd t) ≤ 40) from by rw [nj_l_le (by omega) (by omega), nj_le_l (by omega) (by omega)]; omega), tI_f, if_pos rfl]
        unfold P_Parser_takeItems_47
        rw [a1', bn_s, gz_t (Or.inl rfl), tellI_n hP (by omega)]
        unfold R_tellItem_121
        rw [if_pos rfl, a2', bn_s, e154_f a4, bn_s, hn3, R_read_146.eq_2, if_neg a4.ne.1]
        exact ⟨p', r', rfl, rfl, a3.bl hP.p82⟩
  | succ d ih =>
    intro k p r t nm l c it sa ca n n2 hk h hn hn2
    obtain ⟨n, rfl⟩ : ∃ f, n = f + 1 := ⟨n - 1, by omega⟩
    obtain ⟨n2, rfl⟩ : ∃ f, n2 = f + 1 := ⟨n2 - 1, by omega⟩
    obtain ⟨n3, hn3⟩ : ∃ f, n2 = f + 1 := ⟨n2 - 1, by omega⟩
    have hh := h
    obtain ⟨hP, ht, hk30, hx, h14, h0, h8, h783, h514, h782, hb0, hI, hinj⟩ := h
    have hT := hP.tN
    have hkt := hP.kd3
    have hx23 : x ≤ 23 := hP.2.2.2.2.2.2.2.2.2
    have e0 : (nj (kd t) = 0) = (kd t = 0) := nj_eq_l (by omega) (by omega)
    rw [R_read_146.eq_2, if_pos hP.1.2.2.2.2.1, hP.is 0 (by omega) (y := 0) rfl, bn_s]
    by_cases y : 32 ≤ kd t ∧ kd t ≤ 40
    · rw [decide_eq_false (show ¬ kd t = 0 by omega), tI_f, if_pos rfl]
      rcases item_j hh (by omega) (s := kd t - 32) (by omega) (by omega) n with ⟨p1, r1, t1, nm1, l1, c1, it1, sa1, ca1, a1, a2, a3, a4, a5, a6, a7⟩ | ⟨p1, r1, a1, a2, a3⟩
      · rw [a1, a2, bn_s]
        rcases ih (k + 1) p1 r1 t1 nm1 l1 c1 it1 sa1 ca1 n n2 (by omega) a3 (by omega) (by omega) with ⟨k', p', r', t', nm', l', c', it', sa', ca', b1, b2, b3, b4⟩ | ⟨p', r', b1, b2, b3⟩
        · left
          rw [b1, b2]
          exact ⟨k', p', r', t', nm', l', c', it', sa', ca', rfl, rfl, b3, (a4.trans b4 (by omega) a5 a6).up (by omega) (by omega)⟩
        · right
          rw [b1, b2]
          exact ⟨p', r', rfl, rfl, (a4.bl b3 (by omega) a5 a6).up (by omega) (by omega)⟩
      · right
        obtain ⟨⟨d', q, w1, w2, w3⟩, -⟩ := id a3
        rw [a1, a2, bn_s, hn3, R_read_146.eq_2, if_neg w3.ne.1]
        exact ⟨p1, r1, rfl, rfl, a3.up (by omega) (by omega)⟩
    · rw [P_Parser_takeItems_2.eq_2, if_neg (by rw [nj_l_lt (by omega) (by omega)]; omega), hP.1.2.2.1, inb_nj (by omega), gd_t (decide_eq_true (by omega)), ix_nj (by omega), hkt.2.1]
      by_cases z : kd t = 0
      · left
        rw [if_pos (e0.mpr z), decide_eq_true z, tI_t, if_neg (show ¬ (1 : Int32) = 0 by decide)]
        exact ⟨k, p, r, t, nm, l, c, it, sa, ca, rfl, rfl, hh, Sg.self⟩
      · right
        obtain ⟨p', r', a1, a2, a3, q, a4⟩ := fail_i (a := mC p) (i := 30 * x + k) (l := l) (c := c) hP 1 (Or.inl rfl)
        have a1' : P_Parser_fail 1 p = _ := a1
        have a2' : R_fail 1 r = _ := a2
        rw [if_neg (fun w => z (e0.mp w)), decide_eq_false z, tI_f, if_pos rfl, gd_t (decide_eq_true (by omega)), P_within_e, bp_s, decide_eq_false (show ¬ ((32 : Int32) ≤ nj (kd t) ∧ nj (kd t) ≤ 40) from by rw [nj_l_le (by omega) (by omega), nj_le_l (by omega) (by omega)]; omega), tI_f, if_pos rfl]
        unfold P_Parser_takeItems_47
        rw [a1', bn_s, gz_t (Or.inl rfl), tellI_n hP (by omega)]
        unfold R_tellItem_121
        rw [if_pos rfl, a2', bn_s, e154_f a4, bn_s, hn3, R_read_146.eq_2, if_neg a4.ne.1]
        exact ⟨p', r', rfl, rfl, (a3.bl hP.p82).up (by omega) (by omega)⟩
