/-! Layer C: a LIT of a COND, both sides go through it alike -/
theorem Toks.mono {p r : Mem} {N : Nat} {kd pl : Nat → Nat} (h : Toks p r N kd pl) {i : Nat} : ∀ j, i ≤ j → j < N → pl i ≤ pl j
  | 0, h1, _ => by rw [show i = 0 by omega]; exact Nat.le_refl _
  | j + 1, h1, h2 => by
    by_cases z : i = j + 1
    · rw [z]; exact Nat.le_refl _
    · have := Toks.mono (i := i) h j (by omega) (by omega)
      have := (h.2.2.2.1 j h2).2
      omega
theorem some_snd {r' s : Mem} {u : Unit} (h : some ((), s) = some (u, r')) : s = r' := (Prod.mk.inj (Option.some.inj h)).2
theorem some_snd' {y z : Int32} {r' s : Mem} (h : some (y, s) = some (z, r')) : s = r' := (Prod.mk.inj (Option.some.inj h)).2
theorem gdk {β : Type} {b : Bool} {k : Option β} {y : β} (h : gd b k = some y) : k = some y := by
  unfold gd at h
  split at h
  · exact h
  · cases h
theorem bnk {ρ β : Type} {k : Option (ρ × Mem)} {K : ρ → Mem → Option β} {y : β} (h : bn k K = some y) : ∃ v m, k = some (v, m) ∧ K v m = some y := by
  cases k with
  | none => cases h
  | some vm => exact ⟨vm.1, vm.2, rfl, h⟩
theorem fail_o {x : Int32} {r r' : Mem} (h : R_fail x r = some ((), r')) {f : Nat} (h1 : f ≠ 1549) (h2 : f ≠ 1550) : mI r' f = mI r f := by
  unfold R_fail at h
  split at h
  · rw [vb_e] at h
    have h' := gdk h
    rw [vb_e] at h'
    rw [← some_snd h', k_mI_sI h2, k_mI_sI h1]
  · rw [← some_snd h]
theorem next_o {r r' : Mem} (h : R_next r = some ((), r')) {f : Nat} (h0 : f ≠ 1547) (h1 : f ≠ 1549) (h2 : f ≠ 1550) : mI r' f = mI r f := by
  unfold R_next at h
  split at h
  · obtain ⟨v, m, a1, a2⟩ := bnk h
    rw [← some_snd a2]
    exact fail_o a1 h1 h2
  · rw [vb_e] at h
    rw [← some_snd h, k_mI_sI h0]
theorem is_o {x y : Int32} {r r' : Mem} (h : R_is x r = some (y, r')) : r' = r := by
  unfold R_is at h
  split at h
  · have h' := gdk h
    split at h'
    · exact (some_snd' h').symm
    · exact (some_snd' h').symm
  · exact (some_snd' h).symm
theorem must_o {x : Int32} {r r' : Mem} (h : R_must x r = some ((), r')) {f : Nat} (h0 : f ≠ 1547) (h1 : f ≠ 1549) (h2 : f ≠ 1550) : mI r' f = mI r f := by
  unfold R_must at h
  obtain ⟨v, m, a1, a2⟩ := bnk h
  have e := is_o a1
  subst e
  split at a2
  · obtain ⟨v', m', b1, b2⟩ := bnk a2
    rw [← some_snd b2]
    exact fail_o b1 h1 h2
  · obtain ⟨v', m', b1, b2⟩ := bnk a2
    rw [← some_snd b2]
    exact next_o b1 h0 h1 h2
theorem wrong_o {x y : Int32} {r r' : Mem} (h : R_wrong x y r = some ((), r')) {f : Nat} (h3 : f ≠ 1551) (h4 : f ≠ 1552) : mI r' f = mI r f := by
  unfold R_wrong R_wrong_46 at h
  have h' := gdk h
  rw [vb_e] at h'
  have fin : ∀ z : Int32, (vb (sI r 1551 0 x) fun m2 => vb (sI m2 1552 0 z) fun m4 => some ((), m4)) = some ((), r') → mI r' f = mI r f := fun z q => by
    rw [vb_e, vb_e] at q
    rw [← some_snd q, k_mI_sI h4, k_mI_sI h3]
  split at h'
  · rw [← some_snd h']
  · split at h'
    · exact fin _ h'
    · split at h'
      · rw [← some_snd h']
      · split at h'
        · split at h'
          · exact fin _ h'
          · rw [← some_snd h']
        · exact fin _ h'
theorem number_o {lo hi y : Int32} {r r' : Mem} (h : R_number lo hi r = some (y, r')) {f : Nat} (h0 : f ≠ 1547) (h1 : f ≠ 1549) (h2 : f ≠ 1550) (h3 : f ≠ 1551) (h4 : f ≠ 1552) : mI r' f = mI r f := by
  have e26 : ∀ s0 x3 : Int32, R_number_26 lo hi x3 s0 r = some (y, r') → mI r' f = mI r f := by
    intro s0 x3 q
    unfold R_number_26 R_number_52 at q
    obtain ⟨v, m, a1, a2⟩ := bnk q
    have e1 := must_o a1 h0 h1 h2
    have w : (bn (R_wrong 5 x3 m) fun _ m2 => some (s0, m2)) = some (y, r') → mI r' f = mI r f := fun q => by
      obtain ⟨v', m', b1, b2⟩ := bnk q
      rw [← some_snd' b2, wrong_o b1 h3 h4, e1]
    split at a2
    · split at a2
      · exact w a2
      · split at a2
        · rw [← some_snd' a2, e1]
        · exact w a2
    · rw [← some_snd' a2, e1]
  unfold R_number at h
  rw [vb_e] at h
  obtain ⟨v, m, a1, a2⟩ := bnk h
  have e := is_o a1
  subst e
  split at a2
  · exact e26 _ _ a2
  · exact e26 _ _ (gdk a2)
theorem wrR_ne {k q : Nat} {m : Mem} (h1 : 0 < k) (h2 : k < 100) : mI (wrR k q m) 1551 0 ≠ 0 := by
  unfold wrR
  by_cases z : mI m 1551 0 = 0
  · rw [if_pos z, k_mI_sI (by omega), k_mI_sI_e, up1_ap, if_pos rfl]
    intro w
    rw [nj_eq_l (by omega) (by omega)] at w
    have : k = 0 := w
    omega
  · rw [if_neg z]; exact z
theorem Fs.nt {p : Mem} {c cm : Bool} {st br k q : Nat} {S : List Int32} {W : List Nat} (h : Fs p c st br cm S W) : Fs (ntP k q p) c st br cm S W := by
  unfold Fs
  rw [ntP_o (by omega) (by omega), ntP_o (by omega) (by omega), ntP_o (by omega) (by omega), ntP_o (by omega) (by omega), ntP_o (by omega) (by omega), ntP_o (by omega) (by omega), ntP_o (by omega) (by omega), ntP_x.2.2.1]
  exact h
theorem Rf.emit {r : Mem} {c q d : Nat} {k v : Int32} (h : Rf r c q) : Rf (sI (wI (wI r 33 d k) 34 d v) 1581 0 (nj (d + 1))) c q ∧ Rx d r (sI (wI (wI r 33 d k) 34 d v) 1581 0 (nj (d + 1))) :=
  ⟨⟨h.1, by rw [k_mI_sI (by omega), k_mI_wI, k_mI_wI]; exact h.2.1, by rw [k_mI_sI (by omega), k_mI_wI, k_mI_wI]; exact h.2.2.1, by rw [k_mI_sI (by omega), k_mI_wI, k_mI_wI]; exact h.2.2.2⟩, ((Rx.rfl.wI (by decide) (Or.inl (Nat.le_refl _))).wI (by decide) (Or.inl (Nat.le_refl _))).sI (by decide)⟩
/-- one turn of takeFormula at a ticket's INT -/
theorem tf_it2 {p : Mem} {x1 : Option Nat} {x2 : Int32} {fu i t k v q : Nat} (h1 : mI p 779 22 = nj t) (ht : t ≤ 500) (h2 : aI p 18 t = nj k) (hk : k < 60) (h3 : mI p 130 1 = nj 2) (hi : i ≤ 500) (hv : k = 3 → Int64.toInt32 (aL p 20 t) = nj v ∧ v ≤ 9999) (hq : aI p 19 t = nj q) :
    P_Parser_takeFormula_10 (fu + 1) x1 x2 (nj i) p = bn (P_Formula_goOnWithUnit (nj k) (Int64.toInt32 (aL p 20 t)) (if k = 3 ∧ 8 ≤ v then ntP 5 q p else p)) fun r m => P_Parser_takeFormula_123 (fun z0 z1 z2 z3 => P_Parser_takeFormula_10 fu z0 z1 z2 z3) x1 x2 (nj i) r m := by
  have g : ∀ {β : Type} (z : Option β), gd (inb (nj t) 501) z = z := fun z => by rw [inb_nj (by omega), gd_t (decide_eq_true (by omega))]
  have e70 : ∀ m : Mem, mI m 779 22 = nj t → aI m 18 t = nj k → mI m 130 1 = nj 2 → P_Parser_takeFormula_70 (fun z0 z1 z2 z3 => P_Parser_takeFormula_10 fu z0 z1 z2 z3) x1 x2 (nj i) (Int64.toInt32 (aL p 20 t)) m = bn (P_Formula_goOnWithUnit (nj k) (Int64.toInt32 (aL p 20 t)) m) fun r m => P_Parser_takeFormula_123 (fun z0 z1 z2 z3 => P_Parser_takeFormula_10 fu z0 z1 z2 z3) x1 x2 (nj i) r m := by
    intro m m1 m2 m3
    unfold P_Parser_takeFormula_70 P_Formula_wantsSign
    rw [m3, if_neg (show ¬ nj 2 = 3 by decide), if_neg (show ¬ nj 2 = 4 by decide), bn_s, if_pos rfl, m1, g, ix_nj (by omega), m2]
  rw [P_Parser_takeFormula_10.eq_2, if_neg (by rw [nj_l_lt (by omega) (by omega)]; omega), h1, g, vb_e, ix_nj (by omega)]
  unfold P_Formula_wantsTicket
  rw [h3, if_pos (show nj 2 = 2 from rfl), bn_s, if_neg (show ¬ (1 : Int32) = 0 by decide), h1, g, ix_nj (by omega), h2, e70 p h1 h2 h3]
  have e3 : (nj k = 3) = (k = 3) := nj_eq_l (by omega) (by omega)
  by_cases z : k = 3
  · obtain ⟨v1, v2⟩ := hv z
    rw [if_pos (e3.mpr z), v1]
    by_cases w : v < 8
    · rw [if_pos (by rw [nj_lt_l (by omega) (by omega)]; exact w), if_neg (by omega)]
    · have el : P_Parser_noteLate 5 p = some ((), ntP 5 q p) := late_e 5 h1 ht hq
      have e70' := e70 (ntP 5 q p) (by rw [ntP_o (by omega) (by omega)]; exact h1) (by rw [ntP_x.2.2.1]; exact h2) (by rw [ntP_o (by omega) (by omega)]; exact h3)
      rw [v1] at e70'
      rw [if_neg (by rw [nj_lt_l (by omega) (by omega)]; exact w), el, bn_s, e70', if_pos (by omega)]
  · rw [if_neg (fun w => z (e3.mp w)), if_neg (by omega)]
theorem lit_j {N : Nat} {kd pl : Nat → Nat} {x l c cF : Nat} {orr : Bool} {S : List Int32} {B : List Nat} {x1 : Option Nat} {p r : Mem} {t i g : Nat} (hB : ∀ w, w ∈ B → w < 300) (h51 : 51 ≤ mC p) (h82 : 82 ≤ mC r) (hx : x ≤ 23) (h1 : Toks p r N kd pl) (h2 : t < N) (h3 : mI p 779 22 = nj t) (h4 : mI r 1547 0 = nj t) (h5 : mI r 1549 0 = 0) (h6 : mI r 1548 0 = 0) (hF : Fs p true 0 0 false S B) (hi : S.length + B.length ≤ i) (hit : i < t) (hg : g + i = FU) (hc : mI r 1581 0 = nj c) (hcF1 : c ≤ cF + S.length) (hcF2 : cF + i ≤ 500 * x + t) (hl : mI r 1580 0 = nj l) (hl5 : l < 5000) (hL : Lat p r (pl t)) :
    LOut N kd pl x l c orr S B p r t i x1 (P_Parser_takeFormula_10 g x1 1 (nj i) p) (R_literal (tI orr) r) := by
  have hN := h1.2.1
  have hBok : Bok B := fun w hw => by have := hB w hw; omega
  unfold R_literal
  have ej : R_literal_2 FU (tI orr) 0 r = R_literal_2 FU (tI orr) (tI (odd 0)) r := rfl
  rw [ej]
  rcases nots_j (x1 := x1) (S := S) (B := B) (y := tI orr) (kd := kd) (pl := pl) (N := N) (p0 := p) (r0 := r) (t0 := t) (i0 := i) h51 h82 501 p r t i g FU 0 (by omega) h1 h2 h3 h4 h5 hF (by omega) hit (by omega) (Nat.le_refl _) Cf.rfl (fun C => Rx.rfl) rfl rfl hg (by unfold FU; omega) with ⟨p1, r1, t1, i1, g1, n, u1, u2, j1, j2, j3, j4, j5, j6, j7, j8, j9, j10, j11, j12, j13, j14, j15, j16⟩ | ⟨p', r', u1, u2, u3, u4, u5⟩
  · rw [u1, u2]
    obtain ⟨k1, k2, k3, k4, k5, k6, k7, k8⟩ := j1.2.2.2.2 t1 j2
    clear k7 k8
    have hp1 : 51 ≤ mC p1 := by rw [j11.2.1]; exact h51
    have hr1 : 82 ≤ mC r1 := by rw [(j12 0).2.1]; exact h82
    have hc1 : mI r1 1581 0 = nj c := by rw [j13]; exact hc
    have h61 : mI r1 1548 0 = 0 := by rw [j14]; exact h6
    have hl1 : mI r1 1580 0 = nj l := by rw [(j12 0).1.i (by decide) (by omega)]; exact hl
    have hpl := j1.mono t1 j10 j2
    have hL1 : Lat p1 r1 (pl t1) := (hL.same (j11.1.i (by decide) (by omega)) (j11.1.i (by decide) (by omega)) ((j12 0).1.i (by decide) (by omega)) ((j12 0).1.i (by decide) (by omega))).mono hpl
    have h51l : mI r1 1551 0 = mI r 1551 0 := (j12 0).1.i (by decide) (by omega)
    have hWok : Bok (List.replicate n 358 ++ B) := fun w hw => by
      rcases List.mem_append.mp hw with q | q
      · rw [(List.mem_replicate.mp q).2]; omega
      · exact hBok w q
    unfold R_literal_28
    rw [vb_e, vb_e, is_r j5 j4 (by omega) k4 k1 59 (by omega) (x := 47) rfl, bn_s, hc1]
    have hcb : c ≤ 12000 := by omega
    obtain ⟨g1, rfl⟩ : ∃ f, g1 = f + 1 := ⟨g1 - 1, by unfold FU at j15; omega⟩
    by_cases z59 : kd t1 = 59
    · rw [decide_eq_true z59, tI_t, if_neg (show ¬ (1 : Int32) = 0 by decide)]
      obtain ⟨m, a1, a2, a3, a4⟩ := u_ticket (x2 := Int64.toInt32 (aL p1 20 t1)) j6
      rw [tf_it j3 (by omega) k3 j6.2.1 (by omega) (by omega) (by omega), if_neg (by omega), z59, a1, bn_s]
      have hm : mI m 779 22 = nj t1 := by rw [a4]; exact j3
      obtain ⟨n1, n2⟩ := next_r j5 j4 (by omega) k6
      rcases tf_adv (x1 := x1) (x2 := 1) (fu := g1) (i := i1) (Q := fun m' => Fs m' true 2 0 false S (List.replicate n 358 ++ B)) hp1 (by omega) hm a4 a3 a2.2.2.2.2.1 (fun x => a2.s779 x) with ⟨w, p2, b1, b2, b3, b4⟩ | ⟨w, p2, b1, b2⟩
      · have hnx := j1.nxt j2 (by omega) w
        have hx2 : Rx c r1 (sI r1 1547 0 (nj (t1 + 1))) := Rx.rfl.sI (by decide)
        have hT2 : Toks p2 (sI r1 1547 0 (nj (t1 + 1))) N kd pl := (j1.cf b4 hp1).rx hx2 hr1
        have hp2 : 51 ≤ mC p2 := by rw [b4.2.1]; exact hp1
        have hL2 : Lat p2 (sI r1 1547 0 (nj (t1 + 1))) (pl (t1 + 1)) := (hL1.same (b4.1.i (by decide) (by omega)) (b4.1.i (by decide) (by omega)) (by rw [k_mI_sI (by omega)]) (by rw [k_mI_sI (by omega)])).mono (hT2.mono (t1 + 1) (by omega) hnx)
        have h02 : mI (sI r1 1547 0 (nj (t1 + 1))) 1549 0 = 0 := by rw [k_mI_sI (by omega)]; exact j5
        have h72 : mI (sI r1 1547 0 (nj (t1 + 1))) 1547 0 = nj (t1 + 1) := by rw [k_mI_sI_e, up1_ap, if_pos rfl]
        have h82' : 82 ≤ mC (sI r1 1547 0 (nj (t1 + 1))) := by rw [k_mC_sI]; exact hr1
        have hc2 : mI (sI r1 1547 0 (nj (t1 + 1))) 1581 0 = nj c := by rw [k_mI_sI (by omega)]; exact hc1
        have hl2 : mI (sI r1 1547 0 (nj (t1 + 1))) 1580 0 = nj l := by rw [k_mI_sI (by omega)]; exact hl1
        have h62 : mI (sI r1 1547 0 (nj (t1 + 1))) 1548 0 = 0 := by rw [k_mI_sI (by omega)]; exact h61
        have h5l2 : mI (sI r1 1547 0 (nj (t1 + 1))) 1551 0 = mI r 1551 0 := by rw [k_mI_sI (by omega)]; exact h51l
        rw [b1, n1 w, bn_s]
        have hxr : Rx c r (sI r1 1547 0 (nj (t1 + 1))) := Rx.trans (j12 c) hx2
        generalize sI r1 1547 0 (nj (t1 + 1)) = r2 at *
        obtain ⟨k1', k2', k3', k4', k5', k6', k7', k8'⟩ := hT2.2.2.2.2 (t1 + 1) hnx
        clear k7' k8'
        obtain ⟨nA, nB⟩ := number_r hT2 hnx h72 h02 (fun z => by obtain ⟨-, q, e1, -, e3⟩ := hL2.2 z; exact ⟨q, e1, e3⟩) 0 7 (by omega) (by omega)
        obtain ⟨g2, rfl⟩ : ∃ f, g1 = f + 1 := ⟨g1 - 1, by unfold FU at j15; omega⟩
        by_cases z3 : kd (t1 + 1) = 3
        · obtain ⟨v, v1, v2, v3, v4⟩ := nA z3
          rw [tf_it2 (v := v) b3 (by omega) k3' k1' b2.2.1 (by omega) (fun _ => ⟨v2, v1⟩) k5', z3, v2]
          have hF2 : Fs (if 3 = 3 ∧ 8 ≤ v then ntP 5 (pl (t1 + 1)) p2 else p2) true 2 0 false S (List.replicate n 358 ++ B) := by
            split
            · exact b2.nt
            · exact b2
          have hc2p : Cc p2 (if 3 = 3 ∧ 8 ≤ v then ntP 5 (pl (t1 + 1)) p2 else p2) := by
            split
            · exact Cc.rfl.nt
            · exact Cc.rfl
          have h792 : mI (if 3 = 3 ∧ 8 ≤ v then ntP 5 (pl (t1 + 1)) p2 else p2) 779 22 = nj (t1 + 1) := by
            split
            · rw [ntP_o (by omega) (by omega)]; exact b3
            · exact b3
          have h192 : aI (if 3 = 3 ∧ 8 ≤ v then ntP 5 (pl (t1 + 1)) p2 else p2) 19 (t1 + 1) = nj (pl (t1 + 1)) := by
            split
            · rw [ntP_x.2.2.1]; exact k5'
            · exact k5'
          have hL3 : Lat (if 3 = 3 ∧ 8 ≤ v then ntP 5 (pl (t1 + 1)) p2 else p2) (if 0 ≤ v ∧ v ≤ 7 then sI r2 1547 0 (nj (t1 + 1 + 1)) else wrR 5 (pl (t1 + 1)) (sI r2 1547 0 (nj (t1 + 1 + 1)))) (pl (t1 + 1) + 1) := by
            have hs : Lat p2 (sI r2 1547 0 (nj (t1 + 1 + 1))) (pl (t1 + 1)) := hL2.same rfl rfl (by rw [k_mI_sI (by omega)]) (by rw [k_mI_sI (by omega)])
            by_cases y : v ≤ 7
            · rw [if_neg (by omega), if_pos (by omega)]
              exact hs.mono (by omega)
            · rw [if_pos (by omega), if_neg (by omega)]
              exact hs.nt (by omega) (by omega) k2'
          generalize (if 3 = 3 ∧ 8 ≤ v then ntP 5 (pl (t1 + 1)) p2 else p2) = p3 at *
          have hp3 : 51 ≤ mC p3 := by rw [hc2p.2.1]; exact hp2
          obtain ⟨m2, d1, d2, d3, d4⟩ := u_tint (x2 := nj v) hF2 (by simp; omega)
          rw [d1, bn_s]
          have hm2 : mI m2 779 22 = nj (t1 + 1) := by rw [d4]; exact h792
          rcases tf_adv (x1 := x1) (x2 := 1) (fu := g2) (i := i1 + 1) (Q := fun m' => Fs m' true 4 0 false (S ++ [590000 + nj v]) (List.replicate n 358 ++ B)) hp3 (by omega) hm2 d4 d3 d2.2.2.2.2.1 (fun x => d2.s779 x) with ⟨w2, p4, e1, e2, e3, e4⟩ | ⟨w2, p4, e1, e2⟩
          · have hnx2 := hT2.nxt hnx (by omega) w2
            have v3' : R_number 0 7 r2 = _ := v3 w2
            rw [e1, v3', bn_s]
            have hr3 : ∀ C, Rk l C r2 (if 0 ≤ v ∧ v ≤ 7 then sI r2 1547 0 (nj (t1 + 1 + 1)) else wrR 5 (pl (t1 + 1)) (sI r2 1547 0 (nj (t1 + 1 + 1)))) := fun C => by
              split
              · exact Rk.rfl.sI (by decide)
              · exact (Rk.rfl.sI (by decide)).wr
            have o3 : ∀ f, f ≠ 1551 → f ≠ 1552 → f ≠ 1547 → mI (if 0 ≤ v ∧ v ≤ 7 then sI r2 1547 0 (nj (t1 + 1 + 1)) else wrR 5 (pl (t1 + 1)) (sI r2 1547 0 (nj (t1 + 1 + 1)))) f = mI r2 f := by
              intro f f1 f2 f3
              split
              · rw [k_mI_sI f3]
              · rw [wrR_o f1 f2, k_mI_sI f3]
            have h73 : mI (if 0 ≤ v ∧ v ≤ 7 then sI r2 1547 0 (nj (t1 + 1 + 1)) else wrR 5 (pl (t1 + 1)) (sI r2 1547 0 (nj (t1 + 1 + 1)))) 1547 0 = nj (t1 + 1 + 1) := by
              split
              · rw [k_mI_sI_e, up1_ap, if_pos rfl]
              · rw [wrR_o (by omega) (by omega), k_mI_sI_e, up1_ap, if_pos rfl]
            have hlt : mI (if 0 ≤ v ∧ v ≤ 7 then sI r2 1547 0 (nj (t1 + 1 + 1)) else wrR 5 (pl (t1 + 1)) (sI r2 1547 0 (nj (t1 + 1 + 1)))) 1551 0 = 0 → v < 8 ∧ mI r2 1551 0 = 0 := by
              by_cases y : v ≤ 7
              · rw [if_pos (by omega), k_mI_sI (by omega)]
                exact fun q => ⟨by omega, q⟩
              · rw [if_neg (by omega)]
                exact fun q => absurd q (wrR_ne (by omega) (by omega))
            generalize (if 0 ≤ v ∧ v ≤ 7 then sI r2 1547 0 (nj (t1 + 1 + 1)) else wrR 5 (pl (t1 + 1)) (sI r2 1547 0 (nj (t1 + 1 + 1)))) = r3 at *
            have hr3c : 82 ≤ mC r3 := by rw [(hr3 0).2.1]; exact h82'
            have hc3 : mI r3 1581 0 = nj c := by rw [o3 1581 (by omega) (by omega) (by omega)]; exact hc2
            have em := emit_x (k := 0) (v := nj v) hc3 (by omega)
            rw [em, bn_s]
            have o4 : ∀ f, f ≠ 1581 → mI (sI (wI (wI r3 33 c 0) 34 c (nj v)) 1581 0 (nj (c + 1))) f = mI r3 f := fun f hf => by rw [k_mI_sI hf, k_mI_wI, k_mI_wI]
            have hk4 : Rk l c r3 (sI (wI (wI r3 33 c 0) 34 c (nj v)) 1581 0 (nj (c + 1))) := Rx.rk (((Rx.rfl.wI (by decide) (Or.inl (Nat.le_refl _))).wI (by decide) (Or.inl (Nat.le_refl _))).sI (by decide)) hr3c
            have h34 : aI (sI (wI (wI r3 33 c 0) 34 c (nj v)) 1581 0 (nj (c + 1))) 34 c = nj v := by rw [k_aI_sI, k_aI_wI_e, up1_ap, if_pos rfl]
            have h81 : mI (sI (wI (wI r3 33 c 0) 34 c (nj v)) 1581 0 (nj (c + 1))) 1581 0 = nj (c + 1) := by rw [k_mI_sI_e, up1_ap, if_pos rfl]
            generalize sI (wI (wI r3 33 c 0) 34 c (nj v)) 1581 0 (nj (c + 1)) = r4 at *
            have h136 := R136_e (r := r4) (l := l) (y3 := nj c) (y4 := nj c) (y5 := 4) orr (odd n) (by rw [o4 1549 (by omega), o3 1549 (by omega) (by omega) (by omega)]; exact h02) (by rw [o4 1580 (by omega), o3 1580 (by omega) (by omega) (by omega)]; exact hl2) hl5
            rw [h136]
            obtain ⟨q27, q28, q29, q30, q31, q32, q33, q34, qo, q80⟩ := lwR_at (r := r4) (l := l) (y1 := tI orr) (y2 := tI (odd n)) (y3 := nj c) (y4 := nj c) (y5 := 4) (y6 := mI r4 1581 0)
            have hRk : Rk l c r (lwR r4 l (tI orr) (tI (odd n)) (nj c) (nj c) 4 (mI r4 1581 0)) := lwR_rk (Rk.trans (Rk.trans (Rx.rk hxr h82) (hr3 c)) hk4)
            generalize lwR r4 l (tI orr) (tI (odd n)) (nj c) (nj c) 4 (mI r4 1581 0) = r5 at *
            have hlit : litS (rwD r5 x) (fun _ => n) l = [590000 + nj v] ++ List.replicate n 580000 := by
              unfold litS
              show (if aI r5 27 l = 4 then [590000 + aI r5 34 (ix (aI r5 30 l))] else _) ++ _ = _
              rw [q27, if_pos rfl, q30, ix_nj (by omega), q34, h34]
            have hCc : Cc p p4 := Cc.trans (Cc.trans (Cc.trans j11.cc b4.cc) hc2p) e4.cc
            have L4 : Lat p4 r5 (pl (t1 + 1 + 1)) := (hL3.same (e4.1.i (by decide) (by omega)) (e4.1.i (by decide) (by omega)) (by rw [qo 1551 (by omega), o4 1551 (by omega)]) (by rw [qo 1552 (by omega), o4 1552 (by omega)])).mono (by have := (hT2.2.2.2.1 (t1 + 1) hnx2).2; omega)
            refine Or.inl ⟨p4, r5, t1 + 1 + 1, i1 + 1 + 1, g2, 4, false, S ++ [590000 + nj v], List.replicate n 358 ++ B, n, rfl, rfl, by omega, (h1.cc hCc h51).rk hRk h82, by omega, hnx2, e3, by rw [qo 1547 (by omega), o4 1547 (by omega)]; exact h73, by rw [qo 1549 (by omega), o4 1549 (by omega), o3 1549 (by omega) (by omega) (by omega)]; exact h02, by rw [qo 1548 (by omega), o4 1548 (by omega), o3 1548 (by omega) (by omega) (by omega)]; exact h62, e2, Or.inl rfl, ?_, by simp; omega, by omega, by omega, ?_, q80, ⟨c + 1, by rw [qo 1581 (by omega)]; exact h81, by omega, by rw [hlit]; simp, by omega, Or.inl ⟨q27, c, by omega, q30⟩⟩, q28, q29, ?_, L4, hCc, hRk⟩
            · intro w hw
              have := hWok w hw
              omega
            · intro lim l1 l2
              rw [stO_nots (by omega), stE_nots, hlit]
              refine ⟨?_, rfl⟩
              simp only [List.append_assoc]
            · intro q
              rw [qo 1551 (by omega), o4 1551 (by omega)] at q
              obtain ⟨q1, q2⟩ := hlt q
              refine ⟨by rw [← h5l2]; exact q2, ?_⟩
              refine ⟨?_, ?_, Or.inl ⟨q27, c, v, ?_, q1, q30, by show aI r5 34 c = nj v; rw [q34]; exact h34⟩⟩
              · show aI r5 28 l = 0 ∨ aI r5 28 l = 1
                rw [q28]
                cases odd n
                · exact Or.inl rfl
                · exact Or.inr rfl
              · show aI r5 29 l = 0 ∨ aI r5 29 l = 1
                rw [q29]
                cases orr
                · exact Or.inl rfl
                · exact Or.inr rfl
              · show c < 500 * (x + 1)
                omega
          · right
            obtain ⟨r3, f1, f2, f3⟩ := v4 w2
            have f1' : R_number 0 7 r2 = _ := f1
            have hc3 : mI r3 1581 0 = nj c := by
              rw [number_o f1' (by omega) (by omega) (by omega) (by omega) (by omega)]
              exact hc2
            have em := emit_x (k := 0) (v := nj v) hc3 (by omega)
            obtain ⟨f4, f5⟩ := Rf.emit (d := c) (k := 0) (v := nj v) f2
            rw [e1, f1', bn_s, em, bn_s, R136_f f4]
            exact ⟨p4, _, rfl, rfl, e2.fld (p0 := p) (hT2.cc hc2p hp2) hnx f4, Cc.cd (Cc.trans (Cc.trans j11.cc b4.cc) hc2p) e2.2.2.1.cd, Rx.rk (Rx.trans hxr (Rx.trans (f3 c) f5)) h82⟩
        · right
          obtain ⟨r3, f1, f2, f3⟩ := nB z3
          have f1' : R_number 0 7 r2 = _ := f1
          have hc3 : mI r3 1581 0 = nj c := by
            rw [number_o f1' (by omega) (by omega) (by omega) (by omega) (by omega)]
            exact hc2
          have em := emit_x (k := 0) (v := 0) hc3 (by omega)
          obtain ⟨f4, f5⟩ := Rf.emit (d := c) (k := 0) (v := 0) f2
          rw [tf_it2 (v := 0) b3 (by omega) k3' k1' b2.2.1 (by omega) (fun w => absurd w z3) k5', if_neg (by omega), u_tsyn b2 k1' z3, bn_s]
          obtain ⟨p4, d1, d2⟩ := tf_fail (x1 := x1) (x2 := 1) (fu := g2) (i := i1 + 1) 1 (Or.inl rfl) b3 (by omega)
          have d1' : P_Parser_takeFormula_123 (fun z0 z1 z2 z3 => P_Parser_takeFormula_10 g2 z0 z1 z2 z3) x1 1 (nj (i1 + 1)) 1 p2 = some (0, p4) := d1
          rw [d1', f1', bn_s, em, bn_s, R136_f f4]
          exact ⟨p4, _, rfl, rfl, d2.fld (p0 := p) hT2 hnx f4, Cc.cd (Cc.trans j11.cc b4.cc) d2.2.2.1.cd, Rx.rk (Rx.trans hxr (Rx.trans (f3 c) f5)) h82⟩
      · right
        obtain ⟨r2, d1, d2, d3⟩ := n2 w
        have hc3 : mI r2 1581 0 = nj c := by
          rw [next_o d1 (by omega) (by omega) (by omega)]
          exact hc1
        have em := emit_x (k := 0) (v := 0) hc3 (by omega)
        obtain ⟨f4, f5⟩ := Rf.emit (d := c) (k := 0) (v := 0) d2
        rw [b1, d1, bn_s, number_f d2, bn_s, em, bn_s, R136_f f4]
        exact ⟨p2, _, rfl, rfl, b2.fld (p0 := p) j1 j2 f4, Cc.cd j11.cc b2.2.2.1.cd, Rx.rk (Rx.trans (j12 c) (Rx.trans (d3 c) f5)) h82⟩
    · rw [decide_eq_false z59, tI_f, if_pos rfl]
      have hlB : (List.replicate n 358 ++ B).length = n + B.length := by simp
      have X1 := expr_j (x1 := x1) (x2 := 1) (c := true) (cm := false) (g := g1 + 1) hWok hp1 hr1 hcb j1 j2 j3 j4 j5 h61 j6 (Or.inr ⟨rfl, j16, z59⟩) hc1 (by rw [hlB]; omega) j8 j15
      rcases X1 with ⟨p2, r2, t2, i2, g2, L1, V1, y1, y2, y3, q1, q2, q3, q4, q5, q6, q7, q8, q9, q10, q11, q12, q13, q14, q15, q16, q17, q18, q19⟩ | ⟨p2, r2, y1, y2, y3, y4, y5⟩
      · rw [y1, y2, bn_s, q6, if_pos (by decide), q5, inb_nj (by omega), gd_t (decide_eq_true (by omega)), ix_nj (by omega)]
        obtain ⟨k1', k2', k3', k4', k5', k6', k7', k8'⟩ := q1.2.2.2.2 t2 q3
        clear k7' k8'
        rw [hlB] at q14
        have hp2 : 51 ≤ mC p2 := by rw [q18.2.1]; exact hp1
        have hr2 : 82 ≤ mC r2 := by rw [q19.2.1]; exact hr1
        have hlc1 : (L1 ++ cdV V1).length = L1.length + V1.length := by unfold cdV; simp
        obtain ⟨g2, rfl⟩ : ∃ f, g2 = f + 1 := ⟨g2 - 1, by unfold FU at y3; omega⟩
        have hW1 : ∀ w, w ∈ V1.map eW ++ (List.replicate n 358 ++ B) → w < 1000 := eW_1000 q9 hWok
        have hl1' : (S ++ L1.map enN).length + (V1.map eW ++ (List.replicate n 358 ++ B)).length < 500 := by simp; omega
        rw [k4', tf_it q4 (by omega) k3' q7.2.1 (by omega) (by omega) (by omega), if_pos (Or.inl rfl)]
        have h51l2 : mI r2 1551 0 = mI r 1551 0 := by rw [q19.1.i (by decide) (by omega)]; exact h51l
        have hl2 : mI r2 1580 0 = nj l := by rw [q19.1.i (by decide) (by omega)]; exact hl1
        have hL2 : Lat p2 r2 (pl t2) := (hL1.same (q18.1.i (by decide) (by omega)) (q18.1.i (by decide) (by omega)) (q19.1.i (by decide) (by omega)) (q19.1.i (by decide) (by omega))).mono (q1.mono t2 (by omega) q3)
        by_cases zc : 10 ≤ kd t2 ∧ kd t2 ≤ 13
        · have ek := (cmpk_e (kd t2) k1').1 zc
          unfold R_literal_97
          rw [ek, q6, if_pos rfl, if_neg (by rw [nj_lt_l (by omega) (by omega)]; omega), if_pos (by rw [nj_le_l (by omega) (by omega)]; omega)]
          obtain ⟨m, a1, a2, a3, a4⟩ := g_cmp q7 hl1' hW1 zc
          rw [a1, bn_s]
          obtain ⟨o1, o2, o3⟩ := stO_shut (lim := 4) (by omega) (B := List.replicate n 358 ++ B) V1 q9 q8
          have oB : stO 4 (List.replicate n 358 ++ B) = ([], List.replicate n 358 ++ B) := by
            have lo : ∀ Q : List Nat, (∀ w, w ∈ Q → w < 400) → stO 4 Q = ([], Q) := fun Q hQ => by
              cases Q with
              | nil => rfl
              | cons b Q =>
                unfold stO
                rw [if_pos (by have := hQ b (by simp); omega)]
            refine lo _ fun w hw => ?_
            rcases List.mem_append.mp hw with q | q
            · rw [(List.mem_replicate.mp q).2]; omega
            · have := hB w q
              omega
          rw [oB] at o1
          have eS : S ++ L1.map enN ++ stE (stO 4 (V1.map eW ++ (List.replicate n 358 ++ B))).1 = S ++ (L1 ++ cdV V1).map enN := by
            rw [o1]
            show S ++ L1.map enN ++ stE (V1.map eW ++ []) = _
            rw [List.append_nil, stE_V V1 q9 o3, List.append_assoc, List.map_append]
          rw [eS, o1] at a2
          have hm : mI m 779 22 = nj t2 := by rw [a4]; exact q4
          obtain ⟨n1, n2⟩ := next_r q6 q5 (by omega) k6'
          unfold R_literal_122
          rcases tf_adv (x1 := x1) (x2 := 1) (fu := g2) (i := i2) (Q := fun m' => Fs m' true 1 0 true (S ++ (L1 ++ cdV V1).map enN) ((400 + kd t2) :: (List.replicate n 358 ++ B))) hp2 (by omega) hm a4 a3 a2.2.2.2.2.1 (fun x => a2.s779 x) with ⟨w, p3, b1, b2, b3, b4⟩ | ⟨w, p3, b1, b2⟩
          · have hnx := q1.nxt q3 (by omega) w
            rw [b1, n1 w, bn_s, vb_e]
            have hx3 : ∀ C, Rx C r2 (sI r2 1547 0 (nj (t2 + 1))) := fun C => Rx.rfl.sI (by decide)
            have hT3 : Toks p3 (sI r2 1547 0 (nj (t2 + 1))) N kd pl := (q1.cf b4 hp2).rx (hx3 0) hr2
            have hp3 : 51 ≤ mC p3 := by rw [b4.2.1]; exact hp2
            have h03 : mI (sI r2 1547 0 (nj (t2 + 1))) 1549 0 = 0 := by rw [k_mI_sI (by omega)]; exact q6
            have h73 : mI (sI r2 1547 0 (nj (t2 + 1))) 1547 0 = nj (t2 + 1) := by rw [k_mI_sI_e, up1_ap, if_pos rfl]
            have h83 : 82 ≤ mC (sI r2 1547 0 (nj (t2 + 1))) := by rw [k_mC_sI]; exact hr2
            have hc3 : mI (sI r2 1547 0 (nj (t2 + 1))) 1581 0 = nj (c + (L1 ++ cdV V1).length) := by rw [k_mI_sI (by omega)]; exact q11
            have h63 : mI (sI r2 1547 0 (nj (t2 + 1))) 1548 0 = 0 := by rw [k_mI_sI (by omega)]; exact q10
            have hsg3 : Seg (sI r2 1547 0 (nj (t2 + 1))) c (L1 ++ cdV V1) := by unfold Seg; rw [k_aI_sI]; exact q12
            have hl3 : mI (sI r2 1547 0 (nj (t2 + 1))) 1580 0 = nj l := by rw [k_mI_sI (by omega)]; exact hl2
            have h5l3 : mI (sI r2 1547 0 (nj (t2 + 1))) 1551 0 = mI r 1551 0 := by rw [k_mI_sI (by omega)]; exact h51l2
            have hL3 : Lat p3 (sI r2 1547 0 (nj (t2 + 1))) (pl (t2 + 1)) := (hL2.same (b4.1.i (by decide) (by omega)) (b4.1.i (by decide) (by omega)) (by rw [k_mI_sI (by omega)]) (by rw [k_mI_sI (by omega)])).mono (q1.mono (t2 + 1) (by omega) hnx)
            have hxr : Rx c r (sI r2 1547 0 (nj (t2 + 1))) := Rx.trans (j12 c) (Rx.trans q19 (hx3 c))
            generalize sI r2 1547 0 (nj (t2 + 1)) = r3 at *
            have hB2 : Bok ((400 + kd t2) :: (List.replicate n 358 ++ B)) := fun w hw => by
              rcases List.mem_cons.mp hw with e | e
              · omega
              · exact hWok w e
            rw [hc3]
            have X2 := expr_j (x1 := x1) (x2 := 1) (c := true) (cm := true) (g := g2) hB2 hp3 h83 (by omega) hT3 hnx b3 h73 h03 h63 b2 (Or.inl rfl) hc3 (by rw [List.length_append, List.length_map, hlc1, List.length_cons, hlB]; omega) (show i2 + 1 < t2 + 1 by omega) (by omega)
            rcases X2 with ⟨p4, r4, t4, i4, g4, L2, V2, w1, w2, w3, s1, s2, s3, s4, s5, s6, s7, s8, s9, s10, s11, s12, s13, s14, s15, s16, s17, s18, s19⟩ | ⟨p4, r4, w1, w2, w3, w4, w5⟩
            · rw [w1, w2, bn_s]
              have hlc2 : (L2 ++ cdV V2).length = L2.length + V2.length := by unfold cdV; simp
              rw [List.length_append, List.length_map, hlc1, List.length_cons, hlB] at s14
              have hl4 : mI r4 1580 0 = nj l := by rw [s19.1.i (by decide) (by omega)]; exact hl3
              have h5l4 : mI r4 1551 0 = mI r 1551 0 := by rw [s19.1.i (by decide) (by omega)]; exact h5l3
              rw [R136_e (r := r4) (l := l) (y3 := nj c) (y4 := nj (c + (L1 ++ cdV V1).length)) (y5 := nj (kd t2 - 10)) orr (odd n) s6 hl4 hl5]
              obtain ⟨q27, q28, q29, q30, q31, q32, q33, q34, qo, q80⟩ := lwR_at (r := r4) (l := l) (y1 := tI orr) (y2 := tI (odd n)) (y3 := nj c) (y4 := nj (c + (L1 ++ cdV V1).length)) (y5 := nj (kd t2 - 10)) (y6 := mI r4 1581 0)
              have s19' : Rx c r3 r4 := ⟨s19.1, s19.2.1, s19.2.2.1, fun j hj => s19.2.2.2 j (by omega)⟩
              have hRk : Rk l c r (lwR r4 l (tI orr) (tI (odd n)) (nj c) (nj (c + (L1 ++ cdV V1).length)) (nj (kd t2 - 10)) (mI r4 1581 0)) := lwR_rk (Rx.rk (Rx.trans hxr s19') h82)
              have sg1 : Seg (lwR r4 l (tI orr) (tI (odd n)) (nj c) (nj (c + (L1 ++ cdV V1).length)) (nj (kd t2 - 10)) (mI r4 1581 0)) c (L1 ++ cdV V1) := by
                unfold Seg
                rw [q33, q34]
                exact hsg3.Rx (Nat.le_refl _) s19
              have sg2 : Seg (lwR r4 l (tI orr) (tI (odd n)) (nj c) (nj (c + (L1 ++ cdV V1).length)) (nj (kd t2 - 10)) (mI r4 1581 0)) (c + (L1 ++ cdV V1).length) (L2 ++ cdV V2) := by
                unfold Seg
                rw [q33, q34]
                exact s12
              generalize lwR r4 l (tI orr) (tI (odd n)) (nj c) (nj (c + (L1 ++ cdV V1).length)) (nj (kd t2 - 10)) (mI r4 1581 0) = r5 at *
              rw [s11] at q32
              have e10 : (nj (kd t2 - 10) + 10) * 10000 = nj (kd t2 * 10000) := by
                rw [nj_add_l, show kd t2 - 10 + OfNat.ofNat 10 = kd t2 from by show kd t2 - 10 + 10 = kd t2; omega, show (10000 : Int32) = nj 10000 from rfl, nj_mul]
              have hlit : litS (rwD r5 x) (fun _ => n) l = (L1 ++ cdV V1).map enN ++ (L2 ++ cdV V2).map enN ++ [nj (kd t2 * 10000)] ++ List.replicate n 580000 := by
                unfold litS
                show (if aI r5 27 l = 4 then _ else segS (rwD r5 x) (ix (aI r5 30 l)) (ix (aI r5 31 l)) ++ segS (rwD r5 x) (ix (aI r5 31 l)) (ix (aI r5 32 l)) ++ [(aI r5 27 l + 10) * 10000]) ++ _ = _
                rw [q27, if_neg (by rw [nj_eq_l (by omega) (by omega)]; omega), q30, q31, q32, ix_nj (by omega), ix_nj (by omega), ix_nj (by omega), segS_e sg1, segS_e sg2, e10]
              have hCc : Cc p p4 := (Cf.trans j11 (Cf.trans q18 (Cf.trans b4 s18))).cc
              have L4 : Lat p4 r5 (pl t4) := (hL3.same (s18.1.i (by decide) (by omega)) (s18.1.i (by decide) (by omega)) (by rw [qo 1551 (by omega), s19.1.i (by decide) (by omega)]) (by rw [qo 1552 (by omega), s19.1.i (by decide) (by omega)])).mono (s1.mono t4 (by omega) s3)
              refine Or.inl ⟨p4, r5, t4, i4, g4, 3, true, S ++ (L1 ++ cdV V1).map enN ++ L2.map enN, V2.map eW ++ ((400 + kd t2) :: (List.replicate n 358 ++ B)), n, rfl, rfl, w3, (h1.cc hCc h51).rk hRk h82, by omega, s3, s4, by rw [qo 1547 (by omega)]; exact s5, by rw [qo 1549 (by omega)]; exact s6, by rw [qo 1548 (by omega)]; exact s10, s7, Or.inr ⟨rfl, rfl, s17⟩, eW_1000 s9 hB2, ?_, by omega, s16, ?_, q80, ⟨c + (L1 ++ cdV V1).length + (L2 ++ cdV V2).length, by rw [qo 1581 (by omega)]; exact s11, by omega, ?_, by omega, Or.inr ⟨by rw [q27]; intro w; rw [nj_eq_l (by omega) (by omega)] at w; have : kd t2 - 10 = 4 := w; omega, _, _, _, q30, q31, q32, by omega, by omega, by omega⟩⟩, q28, q29, ?_, L4, hCc, hRk⟩
              · simp only [List.length_append, List.length_map, List.length_cons, List.length_replicate] at hlc1 ⊢
                omega
              · intro lim l1 l2
                obtain ⟨z1, z2, z3⟩ := stO_shut (lim := lim) (by omega) (B := (400 + kd t2) :: (List.replicate n 358 ++ B)) V2 s9 s8
                have z4 : stO lim ((400 + kd t2) :: (List.replicate n 358 ++ B)) = ((400 + kd t2) :: (List.replicate n 358 ++ (stO lim B).1), (stO lim B).2) := by
                  have eu : stO lim ((400 + kd t2) :: (List.replicate n 358 ++ B)) = ((400 + kd t2) :: (stO lim (List.replicate n 358 ++ B)).1, (stO lim (List.replicate n 358 ++ B)).2) := by
                    show (if 400 + kd t2 < lim * 100 then ([], (400 + kd t2) :: (List.replicate n 358 ++ B)) else _) = _
                    rw [if_neg (by omega)]
                  rw [eu, stO_nots (by omega)]
                rw [z1, z4, hlit]
                refine ⟨?_, rfl⟩
                have z5 : stE (V2.map eW ++ (400 + kd t2) :: (List.replicate n 358 ++ (stO lim B).1)) = (cdV V2).map enN ++ nj (kd t2 * 10000) :: (List.replicate n 580000 ++ stE (stO lim B).1) := by
                  have z6 : stE (V2.map eW ++ (400 + kd t2) :: (List.replicate n 358 ++ (stO lim B).1)) = stE (V2.map eW) ++ nj ((400 + kd t2) % 100 * 10000) :: stE (List.replicate n 358 ++ (stO lim B).1) := by
                    unfold stE
                    rw [List.map_append, List.map_cons]
                  rw [z6, stE_V V2 s9 z3, stE_nots, show (400 + kd t2) % 100 = kd t2 by omega]
                rw [z5]
                simp only [List.map_append, List.append_assoc, List.cons_append, List.nil_append]
              · rw [hlit]
                simp only [List.length_append, List.length_map, List.length_cons, List.length_nil, List.length_replicate] at hlc1 hlc2 ⊢
                omega
              · intro q
                rw [qo 1551 (by omega), h5l4] at q
                refine ⟨q, ?_, ?_, Or.inr ⟨kd t2 - 10, c, c + (L1 ++ cdV V1).length, c + (L1 ++ cdV V1).length + (L2 ++ cdV V2).length, by omega, q27, by omega, by omega, ?_, q30, q31, q32, ?_, ?_⟩⟩
                · show aI r5 28 l = 0 ∨ aI r5 28 l = 1
                  rw [q28]
                  cases odd n
                  · exact Or.inl rfl
                  · exact Or.inr rfl
                · show aI r5 29 l = 0 ∨ aI r5 29 l = 1
                  rw [q29]
                  cases orr
                  · exact Or.inl rfl
                  · exact Or.inr rfl
                · show _ ≤ 500 * (x + 1)
                  omega
                · rw [show c + (L1 ++ cdV V1).length - c = (L1 ++ cdV V1).length by omega]
                  exact wfC_e _ c 0 sg1 q13
                · rw [show c + (L1 ++ cdV V1).length + (L2 ++ cdV V2).length - (c + (L1 ++ cdV V1).length) = (L2 ++ cdV V2).length by omega]
                  exact wfC_e _ _ 0 sg2 s13
            · rw [w1, w2, bn_s]
              obtain ⟨cc, qq, v1, v2, v3⟩ := w3
              rw [R136_f v3]
              exact Or.inr ⟨p4, r4, rfl, rfl, ⟨cc, qq, v1, v2, v3⟩, (Cf.cg (Cf.trans j11 (Cf.trans q18 b4)) w4).cd, Rx.rk (Rx.trans hxr ⟨w5.1, w5.2.1, w5.2.2.1, fun j hj => w5.2.2.2 j (by omega)⟩) h82⟩
          · obtain ⟨r3, d1, d2, d3⟩ := n2 w
            obtain ⟨r4, f1, f2, f3, -⟩ := expr_f d2
            rw [b1, d1, bn_s, vb_e, f1, bn_s, R136_f f2]
            exact Or.inr ⟨p3, r4, rfl, rfl, b2.fld (p0 := p) q1 q3 f2, (Cf.cg (Cf.trans j11 q18) b2.2.2.1).cd, Rx.rk (Rx.trans (j12 c) (Rx.trans q19 (Rx.trans (d3 c) (f3 c)))) h82⟩
        · have ek := (cmpk_e (kd t2) k1').2 zc
          rw [g_syn q7 (by omega) k1' q17 (by omega) (fun w => zc ⟨w.2.2.2.1, w.2.2.2.2⟩) (Or.inr ⟨rfl, rfl⟩), bn_s]
          obtain ⟨p3, a1, a2⟩ := tf_fail (x1 := x1) (x2 := 1) (fu := g2) (i := i2) 1 (Or.inl rfl) q4 (by omega)
          have a1' : P_Parser_takeFormula_123 (fun z0 z1 z2 z3 => P_Parser_takeFormula_10 g2 z0 z1 z2 z3) x1 1 (nj i2) 1 p2 = some (0, p3) := a1
          obtain ⟨r3, b1, b2, b3⟩ := fail_r (c := 1) q6 q5 (by omega) k6' (Or.inl rfl)
          have b1' : R_fail 1 r2 = some ((), r3) := b1
          obtain ⟨r4, d1, d2, d3⟩ := R122_f (y1 := tI orr) (y2 := tI (odd n)) (y3 := nj c) (y5 := nj (kM (kd t2)) - 11) b2
          have e97 : R_literal_97 (tI orr) (tI (odd n)) (nj c) (nj (kM (kd t2)) - 11) r2 = some ((), r4) := by
            unfold R_literal_97 R_literal_117
            rw [q6, if_pos rfl, b1', bn_s, d1]
            rcases ek with e | e
            · rw [if_pos e]
            · rw [if_neg e]
              split <;> rfl
          rw [a1', e97]
          exact Or.inr ⟨p3, r4, rfl, rfl, a2.fld (p0 := p) q1 q3 d2, (Cf.cg (Cf.trans j11 q18) a2.2.2.1).cd, Rx.rk (Rx.trans (j12 c) (Rx.trans q19 (Rx.trans (b3 c) (d3 c)))) h82⟩
      · rw [y1, y2, bn_s]
        obtain ⟨cc, qq, v1, v2, v3⟩ := y3
        obtain ⟨r4, d1, d2, d3⟩ := R97_f (y1 := tI orr) (y2 := tI (odd n)) (y3 := nj c) (s0 := 0) v3
        rw [if_neg v3.ne.2.1, d1]
        exact Or.inr ⟨p2, r4, rfl, rfl, ⟨cc, qq, v1, v2, d2⟩, (Cf.cg j11 y4).cd, Rx.rk (Rx.trans (j12 c) (Rx.trans y5 (d3 c))) h82⟩
  · rw [u1, u2]
    exact Or.inr ⟨p', r', rfl, rfl, u3, u4.cd, Rx.rk (u5 c) h82⟩
