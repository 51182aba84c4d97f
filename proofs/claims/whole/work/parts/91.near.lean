/-! Layer C: nearest -/
def cmZ (D : Dt) (M : Nat → Nat) (a i t : Nat) : Nat := if D.1 15 i = 2 ∧ ((D.1 17 i) >>> (nj t &&& 31)) &&& 1 = 1 then popN (M a &&& M t) 16 else 0
def nrT (cm : Nat → Nat) (i : Nat) (S : Option Nat × Nat) : Nat → Option Nat × Nat
  | 0 => S
  | t + 1 => if (nrT cm i S t).2 < cm t then (some i, cm t) else nrT cm i S t
def nrQ (D : Dt) (M : Nat → Nat) (a : Nat) : List Row → Option Nat × Nat → Option Nat × Nat
  | [], S => S
  | z :: l, S => nrQ D M a l (nrT (cmZ D M a z.1) z.1 S 16)
def nmO (D : Dt) (o : Option Nat) : Int32 := match o with
  | some i => D.1 16 i
  | none => -1
section Ne
variable {fa ta ia sa ca : Nat → Nat} {od : List Nat} {p r : Mem} {nc w : Nat} {D : Dt} {X : Dy} {M : Nat → Nat}
theorem cmZ_le {a i t : Nat} : cmZ D M a i t ≤ 16 := by
  unfold cmZ
  split
  · exact popN_le 16
  · omega
theorem nrT_le {cm : Nat → Nat} {i : Nat} {S : Option Nat × Nat} (hS : S.2 ≤ 16) (hc : ∀ t, cm t ≤ 16) : ∀ t, (nrT cm i S t).2 ≤ 16
  | 0 => hS
  | t + 1 => by
    have := nrT_le hS hc t (i := i)
    show (if (nrT cm i S t).2 < cm t then (some i, cm t) else nrT cm i S t).2 ≤ 16
    split
    · exact hc t
    · exact this
theorem nrT_zero {cm : Nat → Nat} {i : Nat} {S : Option Nat × Nat} (hc : ∀ t, cm t = 0) : ∀ t, nrT cm i S t = S
  | 0 => rfl
  | t + 1 => by
    show (if (nrT cm i S t).2 < cm t then (some i, cm t) else nrT cm i S t) = S
    rw [hc t, if_neg (by omega), nrT_zero hc t]
theorem P_near_20_e (L : Lk fa ta ia sa ca od p D) (hp : PL p) (hM : ∀ j, j < 16 → aI p 11 j = nj (M j) ∧ M j < 256) {k j a : Nat} {Q : RS} {z : Row} (hk : k < D.2.1) (h60 : D.1 8 k = 0 ∨ D.1 8 k = 3) (hR : RowsP ta ia p k Q) (hz : Q.1[j]? = some z) (hj : j < 60) (zI : isI D z.1) (ha : a < 16) {S : Option Nat × Nat} (hS : S.2 ≤ 16) (k8 : Nat → Int32 → Option Nat → Int32 → Int32 → Int32 → Mem → Option (Int32 × Mem)) : ∀ (e t fu : Nat), t + e = 16 → e < fu → P_Text_nearestClass_20 k8 fu (ta k) (nj a) (some 11) (nmO D (nrT (cmZ D M a z.1) z.1 S t).1) (nj (nrT (cmZ D M a z.1) z.1 S t).2) (nj j) (nj t) p = k8 (ta k) (nj a) (some 11) (nmO D (nrT (cmZ D M a z.1) z.1 S 16).1) (nj (nrT (cmZ D M a z.1) z.1 S 16).2) (nj (j + 1)) p
  | 0, t, fu + 1, he, _ => by
    rw [P_Text_nearestClass_20.eq_2, gs_s, gt_t (PC_11 hp).1, (PC_11 hp).2]
    show (if nj 16 ≤ nj t then _ else _) = _
    rw [if_pos (by rw [nj_le (by omega) (by omega)]; omega), show t = 16 by omega]
    unfold P_Text_nearestClass_125
    rw [vb_e, nj_add_l]
  | e + 1, t, fu + 1, he, hf => by
    have ih := P_near_20_e L hp hM hk h60 hR hz hj zI ha hS k8 e (t + 1) fu (by omega) (by omega)
    obtain ⟨-, t2, -, -, -, -, -, -, -, -, -, -, t13, -, -, -, t17, -, -, -, t21⟩ := L.2.1.2.1 k hk
    obtain ⟨k', I⟩ := itemAt_of L zI
    have hb := nrT_le hS (fun t => cmZ_le (D := D) (M := M) (a := a) (i := z.1) (t := t)) t (i := z.1)
    have hc := cmZ_le (D := D) (M := M) (a := a) (i := z.1) (t := t)
    have hs : nrT (cmZ D M a z.1) z.1 S (t + 1) = if (nrT (cmZ D M a z.1) z.1 S t).2 < cmZ D M a z.1 t then (some z.1, cmZ D M a z.1 t) else nrT (cmZ D M a z.1) z.1 S t := rfl
    have e95 : P_Text_nearestClass_95 k8 (fun z0 z1 z2 z3 z4 z5 z6 z7 => P_Text_nearestClass_20 k8 fu z0 z1 z2 z3 z4 z5 z6 z7) (ta k) (nj a) (some 11) (nmO D (nrT (cmZ D M a z.1) z.1 S t).1) (nj (nrT (cmZ D M a z.1) z.1 S t).2) (nj j) (nj t) (nj (cmZ D M a z.1 t)) p = k8 (ta k) (nj a) (some 11) (nmO D (nrT (cmZ D M a z.1) z.1 S 16).1) (nj (nrT (cmZ D M a z.1) z.1 S 16).2) (nj (j + 1)) p := by
      unfold P_Text_nearestClass_95 P_Text_nearestClass_119
      simp only [vb_e, nj_add_l]
      rw [hs] at ih
      by_cases q : (nrT (cmZ D M a z.1) z.1 S t).2 < cmZ D M a z.1 t
      · rw [if_pos q] at ih
        rw [if_neg (by rw [nj_le (by omega) (by omega)]; omega), t13, gs_s, gt_t t17, (t21 h60).1, inb_nj (by omega), gd_t (decide_eq_true hj), ix_nj (by omega), (hR.2.1 j z hz).1, gs_s, gt_t I.2.1, I.2.2.2.2.1]
        exact ih
      · rw [if_neg q] at ih
        rw [if_pos (by rw [nj_le (by omega) (by omega)]; omega)]
        exact ih
    have e34 : (D.1 15 z.1 + 32 = 34) = (D.1 15 z.1 = 2) := propext (by grind)
    rw [P_Text_nearestClass_20.eq_2, gs_s, gt_t (PC_11 hp).1, (PC_11 hp).2]
    show (if nj 16 ≤ nj t then _ else _) = _
    rw [if_neg (by rw [nj_le (by omega) (by omega)]; omega), t13, gs_s, gt_t t17, (t21 h60).1, inb_nj (by omega), gd_t (decide_eq_true hj), ix_nj (by omega), (hR.2.1 j z hz).1, gs_s, gt_t I.2.1, I.2.2.1]
    unfold P_Text_nearestClass_65
    have e66 : P_Text_nearestClass_66 k8 (fun z0 z1 z2 z3 z4 z5 z6 z7 => P_Text_nearestClass_20 k8 fu z0 z1 z2 z3 z4 z5 z6 z7) (ta k) (nj a) (some 11) (nmO D (nrT (cmZ D M a z.1) z.1 S t).1) (nj (nrT (cmZ D M a z.1) z.1 S t).2) (nj j) (nj t) 0 p = P_Text_nearestClass_95 k8 (fun z0 z1 z2 z3 z4 z5 z6 z7 => P_Text_nearestClass_20 k8 fu z0 z1 z2 z3 z4 z5 z6 z7) (ta k) (nj a) (some 11) (nmO D (nrT (cmZ D M a z.1) z.1 S t).1) (nj (nrT (cmZ D M a z.1) z.1 S t).2) (nj j) (nj t) 0 p := by
      unfold P_Text_nearestClass_66 P_Text_nearestClass_94
      rw [if_pos rfl]
    by_cases c : D.1 15 z.1 = 2
    · rw [if_pos (by rw [e34]; exact c), gs_s, gt_t t17, (t21 h60).1, inb_nj (by omega), gd_t (decide_eq_true hj), (hR.2.1 j z hz).1, gs_s, gt_t I.2.1, (I.2.2.2.2.2.1 c).1]
      by_cases c2 : ((D.1 17 z.1) >>> (nj t &&& 31)) &&& 1 = 1
      · have ec : cmZ D M a z.1 t = popN (M a &&& M t) 16 := by unfold cmZ; rw [if_pos ⟨c, c2⟩]
        have hta : isTk (nj a) = true := decide_eq_true ⟨nj_0le (by omega), by rw [show (15 : Int32) = nj 15 from rfl, nj_le (by omega) (by omega)]; omega⟩
        rw [if_pos c2]
        unfold P_Text_nearestClass_66
        rw [if_neg (by decide), P_isTask_k, hta, bp_s, if_neg (by decide), gs_s, gt_t (PC_11 hp).1, (PC_11 hp).2, inb_nj (by omega), gd_t (decide_eq_true ha), inb_nj (by omega), gd_t (decide_eq_true (by omega)), ix_nj (by omega), ix_nj (by omega), (hM a ha).1, (hM t (by omega)).1, nj_and]
        have hlt : M a &&& M t < 65536 := Nat.lt_of_le_of_lt Nat.and_le_left (by have := (hM a ha).2; omega)
        rw [J_bitCount_e hlt, bp_s, ← ec]
        exact e95
      · have ec : cmZ D M a z.1 t = 0 := by unfold cmZ; rw [if_neg (fun q => c2 q.2)]
        rw [if_neg c2, e66]
        rw [ec] at e95
        exact e95
    · have ec : cmZ D M a z.1 t = 0 := by unfold cmZ; rw [if_neg (fun q => c q.1)]
      rw [if_neg (by rw [e34]; exact c), e66]
      rw [ec] at e95
      exact e95
theorem nrQ_snoc {a : Nat} {z : Row} : ∀ (l : List Row) (S : Option Nat × Nat), nrQ D M a (l ++ [z]) S = nrT (cmZ D M a z.1) z.1 (nrQ D M a l S) 16
  | [], S => rfl
  | y :: l, S => nrQ_snoc l (nrT (cmZ D M a y.1) y.1 S 16)
theorem nrQ_le {a : Nat} : ∀ (l : List Row) (S : Option Nat × Nat), S.2 ≤ 16 → (nrQ D M a l S).2 ≤ 16
  | [], S, h => h
  | y :: l, S, h => nrQ_le l _ (nrT_le h (fun _ => cmZ_le) 16)
theorem P_near_8_e (L : Lk fa ta ia sa ca od p D) (hp : PL p) (hM : ∀ j, j < 16 → aI p 11 j = nj (M j) ∧ M j < 256) {k a : Nat} {Q : RS} (hk : k < D.2.1) (h60 : D.1 8 k = 0 ∨ D.1 8 k = 3) (hR : RowsP ta ia p k Q) (hW : WRow D Q.1) (hl : Q.1.length ≤ 60) (ha : a < 16) : ∀ (e j fu : Nat), j + e = Q.1.length → e < fu → P_Text_nearestClass_8 fu (ta k) (nj a) (some 11) (nmO D (nrQ D M a (Q.1.take j) (none, 0)).1) (nj (nrQ D M a (Q.1.take j) (none, 0)).2) (nj j) p = some (nmO D (nrQ D M a Q.1 (none, 0)).1, p)
  | 0, j, fu + 1, he, _ => by
    rw [P_Text_nearestClass_8.eq_2, hR.1, if_pos (by rw [nj_le (by omega) (by omega)]; omega), List.take_of_length_le (by omega)]
  | e + 1, j, fu + 1, he, hf => by
    have ih := P_near_8_e L hp hM hk h60 hR hW hl ha e (j + 1) fu (by omega) (by omega)
    obtain ⟨z, hz⟩ : ∃ q, Q.1[j]? = some q := ⟨Q.1[j]'(by omega), List.getElem?_eq_getElem (by omega)⟩
    rw [take_get hz, nrQ_snoc] at ih
    rw [P_Text_nearestClass_8.eq_2, hR.1, if_neg (by rw [nj_le (by omega) (by omega)]; omega)]
    exact (P_near_20_e L hp hM hk h60 hR hz (by omega) (hW.1 z (List.mem_of_getElem? hz)).1 ha (nrQ_le _ _ (by show (0:Nat) ≤ 16; omega)) (fun z0 z1 z2 z3 z4 z5 z6 => P_Text_nearestClass_8 fu z0 z1 z2 z3 z4 z5 z6) 16 0 FU (by omega) (by unfold FU; omega)).trans ih
theorem R_near_104_e (hD : dat r = D) (h24 : D.2.1 ≤ 24) (hM : ∀ j, j < 16 → aI r 42 j = nj (M j) ∧ M j < 256) {i a g : Nat} (hi : i < 30 * D.2.1) (h2 : D.1 15 i = 2) (ha : a < 16) (hg : g < 48) (h60 : aI r 60 g = nj a) {x5 x8 : Int32} {S : Option Nat × Nat} (hS : S.2 ≤ 16) (k60 : Int32 → Int32 → Int32 → Int32 → Int32 → Mem → Option (Int32 × Mem)) : ∀ (e t fu : Nat), t + e = 16 → e < fu → R_nearest_104 k60 fu (nj g) x5 (jo (nrT (cmZ D M a i) i S t).1) (nj (nrT (cmZ D M a i) i S t).2) x8 (nj i) (nj t) r = k60 (nj g) x5 (jo (nrT (cmZ D M a i) i S 16).1) (nj (nrT (cmZ D M a i) i S 16).2) (x8 + 1) r
  | 0, t, fu + 1, he, _ => by
    rw [R_nearest_104.eq_2, if_pos (by rw [show (16 : Int32) = nj 16 from rfl, nj_le (by omega) (by omega)]; omega), show t = 16 by omega]
    unfold R_nearest_179
    rw [vb_e]
  | e + 1, t, fu + 1, he, hf => by
    have ih := R_near_104_e hD h24 hM hi h2 ha hg h60 (x5 := x5) (x8 := x8) hS k60 e (t + 1) fu (by omega) (by omega)
    have hb := nrT_le hS (fun t => cmZ_le (D := D) (M := M) (a := a) (i := i) (t := t)) t (i := i)
    have hc := cmZ_le (D := D) (M := M) (a := a) (i := i) (t := t)
    have hs : nrT (cmZ D M a i) i S (t + 1) = if (nrT (cmZ D M a i) i S t).2 < cmZ D M a i t then (some i, cmZ D M a i t) else nrT (cmZ D M a i) i S t := rfl
    have e153 : R_nearest_153 k60 (fun z0 z1 z2 z3 z4 z5 z6 z7 => R_nearest_104 k60 fu z0 z1 z2 z3 z4 z5 z6 z7) (nj g) x5 (jo (nrT (cmZ D M a i) i S t).1) (nj (nrT (cmZ D M a i) i S t).2) x8 (nj i) (nj t) (nj (cmZ D M a i t)) r = k60 (nj g) x5 (jo (nrT (cmZ D M a i) i S 16).1) (nj (nrT (cmZ D M a i) i S 16).2) (x8 + 1) r := by
      unfold R_nearest_153 R_nearest_173
      simp only [vb_e, nj_add_l]
      rw [hs] at ih
      by_cases q : (nrT (cmZ D M a i) i S t).2 < cmZ D M a i t
      · rw [if_pos q] at ih
        rw [if_pos (by rw [nj_lt (by omega) (by omega)]; exact q)]
        exact ih
      · rw [if_neg q] at ih
        rw [if_neg (by rw [nj_lt (by omega) (by omega)]; exact q)]
        exact ih
    rw [R_nearest_104.eq_2, if_neg (by rw [show (16 : Int32) = nj 16 from rfl, nj_le (by omega) (by omega)]; omega), inb_nj (by omega), gd_t (decide_eq_true (by omega)), ix_nj (by omega), dat_15 hD (x := 17) (by omega) hi]
    by_cases c2 : ((D.1 17 i) >>> (nj t &&& 31)) &&& 1 = 1
    · have ec : cmZ D M a i t = popN (M t &&& M a) 16 := by unfold cmZ; rw [if_pos ⟨h2, c2⟩, Nat.and_comm]
      rw [if_pos c2, inb_nj (by omega), gd_t (decide_eq_true (by omega)), inb_nj (by omega), gd_t (decide_eq_true hg), ix_nj (by omega), ix_nj (by omega), h60, inb_nj (by omega), gd_t (decide_eq_true ha), ix_nj (by omega), (hM a ha).1, (hM t (by omega)).1, nj_and]
      have hlt : M t &&& M a < 65536 := Nat.lt_of_le_of_lt Nat.and_le_right (by have := (hM a ha).2; omega)
      rw [R_bits_e (by omega), bp_s, ← ec]
      exact e153
    · have ec : cmZ D M a i t = 0 := by unfold cmZ; rw [if_neg (fun q => c2 q.2)]
      rw [if_neg c2]
      rw [ec] at e153
      exact e153
theorem R_near_60_e (hD : dat r = D) (W : WText D nc) (hM : ∀ j, j < 16 → aI r 42 j = nj (M j) ∧ M j < 256) {k a g : Nat} {Q : RS} (hk : k < D.2.1) (hR : RowsR r k Q) (hW : WRow D Q.1) (hl : Q.1.length ≤ 60) (ha : a < 16) (hg : g < 48) (h60 : aI r 60 g = nj a) : ∀ (e j fu : Nat), j + e = Q.1.length → e < fu → R_nearest_60 fu (nj g) (nj k) (jo (nrQ D M a (Q.1.take j) (none, 0)).1) (nj (nrQ D M a (Q.1.take j) (none, 0)).2) (nj (64 * k + j)) r = R_nearest_185 (jo (nrQ D M a Q.1 (none, 0)).1) r
  | 0, j, fu + 1, he, _ => by
    have h24 := W.1
    rw [R_nearest_60.eq_2, inb_nj (by omega), gd_t (decide_eq_true (by omega)), ix_nj (by omega), hR.1, nj_l_mul, nj_add, if_pos (by rw [nj_le (by omega) (by omega)]; omega), List.take_of_length_le (by omega)]
  | e + 1, j, fu + 1, he, hf => by
    have h24 := W.1
    have ih := R_near_60_e hD W hM hk hR hW hl ha hg h60 e (j + 1) fu (by omega) (by omega)
    obtain ⟨z, hz⟩ : ∃ q, Q.1[j]? = some q := ⟨Q.1[j]'(by omega), List.getElem?_eq_getElem (by omega)⟩
    obtain ⟨y1, y2, y3⟩ := isI_30 W (hW.1 z (List.mem_of_getElem? hz)).1
    have y4 : z.1 < 30 * D.2.1 := by omega
    rw [take_get hz, nrQ_snoc] at ih
    rw [R_nearest_60.eq_2, inb_nj (by omega), gd_t (decide_eq_true (by omega)), ix_nj (show k < 2147483648 by omega), hR.1, nj_l_mul, nj_add, if_neg (by rw [nj_le (by omega) (by omega)]; omega), inb_nj (by omega), gd_t (decide_eq_true (by omega)), ix_nj (by omega), (hR.2.1 j z hz).1, vb_e, inb_nj (by omega), gd_t (decide_eq_true (by omega)), ix_nj (by omega), dat_15 hD (x := 15) (by omega) y4]
    by_cases c : D.1 15 z.1 = 2
    · rw [if_pos c]
      have := R_near_104_e hD h24 hM y4 c ha hg h60 (x5 := nj k) (x8 := nj (64 * k + j)) (S := nrQ D M a (Q.1.take j) (none, 0)) (nrQ_le _ _ (by show (0:Nat) ≤ 16; omega)) (fun z0 z1 z2 z3 z4 z5 => R_nearest_60 fu z0 z1 z2 z3 z4 z5) 16 0 FU (by omega) (by unfold FU; omega)
      refine this.trans ?_
      show R_nearest_60 fu _ _ _ _ _ _ = _
      rw [nj_add_l]
      exact ih
    · rw [if_neg c]
      rw [nrT_zero (fun t => by unfold cmZ; rw [if_neg (fun q => c q.1)])] at ih
      unfold R_nearest_179
      rw [vb_e, nj_add_l]
      exact ih
theorem nrQ_mem {a : Nat} : ∀ (l : List Row) (S : Option Nat × Nat) (i : Nat), (nrQ D M a l S).1 = some i → S.1 = some i ∨ ∃ z, z ∈ l ∧ z.1 = i
  | [], S, i, h => Or.inl h
  | y :: l, S, i, h => by
    rcases nrQ_mem l _ i h with q | ⟨z, q1, q2⟩
    · have : ∀ t, (nrT (cmZ D M a y.1) y.1 S t).1 = some i → S.1 = some i ∨ y.1 = i := by
        intro t
        induction t with
        | zero => exact fun q => Or.inl q
        | succ t ih =>
          intro q
          have hs : nrT (cmZ D M a y.1) y.1 S (t + 1) = if (nrT (cmZ D M a y.1) y.1 S t).2 < cmZ D M a y.1 t then (some y.1, cmZ D M a y.1 t) else nrT (cmZ D M a y.1) y.1 S t := rfl
          rw [hs] at q
          by_cases z : (nrT (cmZ D M a y.1) y.1 S t).2 < cmZ D M a y.1 t
          · rw [if_pos z] at q
            exact Or.inr (Option.some.inj q)
          · rw [if_neg z] at q
            exact ih q
      rcases this 16 q with e | e
      · exact Or.inl e
      · exact Or.inr ⟨y, by simp, e⟩
    · exact Or.inr ⟨z, by simp [q1], q2⟩
theorem st_nearest (h : Bs nc p r) (hL : LC (dat r) none r) (hw : mI p 1157 25 = nj w) (hw1 : w + 192 < 2147483647) (x1 x2 x3 x4 : Int32) : Askl nc w 192 p r (P_nearest x1 x2 x3 x4 p) (R_nearest x1 x2 x3 x4 r) := by
  have W := h.1.2.2.1
  have h24 := W.1
  have hn60 : nc ≤ 60 := h.1.2.2.2.2.2.2.1
  have Wi := h.2.2.2.1
  have T1 := h.1.1.1
  have C2 := h.1.2.1
  rcases half_e h hL hw hw1 x1 x2 x3 x4 with ⟨a1, a2⟩ | ⟨X, who, g, p', r', rfl, rfl, rfl, rfl, hg, a1, a2, a3, J⟩
  · refine Askl.no (v := -1) h hL hw ?_ ?_
    · unfold P_nearest
      rw [a1, bn_s, if_pos rfl]
    · unfold R_nearest
      rw [a2, bn_s, if_pos rfl]
  · obtain ⟨fa, ta, ia, sa, ca, od, w', j1, j2, j3, j4, j5, j6, j7, j8, j9, j10, j11, j12, j13⟩ := id J
    obtain ⟨k1, k2, k3, k4, k5, k6, k7, k8, k9, k10, k11, k12, k13, k14⟩ := j8
    obtain ⟨f1, f2, f3, f4, f5, f6, f7⟩ := (j3 g hg).1
    obtain ⟨g1, g2, g3, g4, g5, g6⟩ := (k14 g hg).1
    have gh : ∀ {β : Type} (c : Option β), gd (inb (nj g) 48) c = c := fun c => by rw [inb_nj (by omega), gd_t (decide_eq_true hg)]
    have ig : ix (nj g) = g := ix_nj (by omega)
    have n1 : ¬ ((1 : Int32) = 0) := by decide
    have hP : P_nearest (nj who) (nj (xd X)) (nj g) (nj (xn X)) p = if (awH (dat r) X g).map ta = none then some (-1, p') else if jo (clH (dat r) X none (awH (dat r) X) g) = -1 then gs ((awH (dat r) X g).map ta) fun a10 => gt p' a10 11 <| bn (P_Text_nearestClass a10 (tsH (dat r) X g) (some 11) p') fun r14 m15 => some (r14, m15) else some (-1, p') := by
      unfold P_nearest
      rw [a1, bn_s, if_neg n1]
      simp only [gh, ig, f1, f4, f5]
    have hR : R_nearest (nj who) (nj (xd X)) (nj g) (nj (xn X)) r = if boH (dat r) X g < 0 then some (-1, r') else if jkO (awH (dat r) X g) (clH (dat r) X none (awH (dat r) X) g) = -1 then R_nearest_60 FU (nj g) (boH (dat r) X g) (-1) 0 (64 * boH (dat r) X g) r' else some (-1, r') := by
      unfold R_nearest
      rw [a2, bn_s, if_neg n1, a3, bn_s]
      simp only [gh, ig, g3, g4, vb_e]
    rw [hP, hR]
    cases c : awH (dat r) X g with
    | none =>
      have hneg : boH (dat r) X g < 0 := by rcases aw_no c with z | z <;> rw [z] <;> decide
      exact J.ask (v := -1) h (by rw [if_pos (by rfl)]) (by rw [if_pos hneg])
    | some k =>
      obtain ⟨eb, hk, h8, hi, ht⟩ := aw_some c
      have hneg : ¬ boH (dat r) X g < 0 := by rw [eb, nj_nneg (by omega)]; exact id
      obtain ⟨P', -, -⟩ := j4 (tk_ne hg ht)
      have hRow := rowQ_W (X := X) W k3 hk
      have hlen := hRow.len Wi hn60
      cases cj : clH (dat r) X none (awH (dat r) X) g with
      | some j =>
        obtain ⟨z, hz, -⟩ := cl_some c cj
        have hj := get_mem hz
        exact J.ask (v := -1) h (by rw [if_neg (by simp), if_neg (jo_some (by omega))]) (by rw [if_neg hneg, show jkO (some k) (some j) = nj (64 * k + j) from rfl, if_neg (by rw [nj_ne_m1 (by omega)]; exact id)])
      | none =>
        have hwk : isW (dat r) k = true := decide_eq_true (Or.inl h8)
        obtain ⟨a, ha, ea⟩ := nj_in (n := 15) (by omega) (of_decide_eq_true ht)
        have hMk : ∃ M : Nat → Nat, ∀ j, j < 16 → aI r 42 j = nj (M j) ∧ M j < 256 := by
          obtain ⟨to, fi, pe, -, -, -, -, -, -, -, -, -, -, -, -, -, -, -, -, -, -, -, -, -, hm⟩ := h.2.1
          refine ⟨fun j => ix (aI r 42 j), fun j hj => ?_⟩
          obtain ⟨y, hy, ey⟩ := hm j hj
          show aI r 42 j = nj (ix (aI r 42 j)) ∧ ix (aI r 42 j) < 256
          rw [ey, ix_nj (by omega)]
          exact ⟨rfl, hy⟩
        obtain ⟨M, hM⟩ := hMk
        have a6' : aI p 11 = aI r 42 := by
          obtain ⟨to, fi, pe, -, -, -, -, -, -, -, -, -, -, -, -, -, -, a6, -⟩ := h.2.1
          exact a6
        have hMp : ∀ j, j < 16 → aI p' 11 j = nj (M j) ∧ M j < 256 := fun j hj => by
          rw [j9.ai (by decide) (by unfold hi51; omega) (by omega), a6']
          exact hM j hj
        have hMr : ∀ j, j < 16 → aI r' 42 j = nj (M j) ∧ M j < 256 := fun j hj => by
          rw [j10.ai (by decide) nil_no (by omega)]
          exact hM j hj
        obtain ⟨-, t2, -⟩ := P'.1.2.1.2.1 k hk
        have hp8 := P_near_8_e P'.1 P'.2.2.1 hMp hk (Or.inl h8) (P'.2.2.2.2.1.2.1 k hk hi hwk) hRow hlen (show a < 16 by omega) (rowQ (dat r) X k).length 0 FU (Nat.zero_add _) (by unfold FU; omega)
        have hr60 := R_near_60_e (Q := (bQ (dat r) (xd X) (xf X) (xn X)).1 k) j7.1 W hMr hk (j6.2.2.2.1.2.1 k hk) hRow hlen (show a < 16 by omega) hg (by rw [g1, ea]) (rowQ (dat r) X k).length 0 FU (Nat.zero_add _) (by unfold FU; omega)
        refine J.ask (v := nmO (dat r) (nrQ (dat r) M a (rowQ (dat r) X k) (none, 0)).1) h ?_ ?_
        · show (if some (ta k) = none then _ else if jo none = -1 then gs (some (ta k)) _ else _) = _
          rw [if_neg (by simp), if_pos (by rfl), gs_s, gt_t t2, ea]
          have : P_Text_nearestClass (ta k) (nj a) (some 11) p' = some (nmO (dat r) (nrQ (dat r) M a (rowQ (dat r) X k) (none, 0)).1, p') := hp8
          rw [this, bn_s]
        · rw [if_neg hneg, if_pos (by rfl), eb, nj_l_mul]
          refine Eq.trans hr60 ?_
          show R_nearest_185 (jo (nrQ (dat r) M a (rowQ (dat r) X k) (none, 0)).1) r' = _
          unfold R_nearest_185
          cases cn : (nrQ (dat r) M a (rowQ (dat r) X k) (none, 0)).1 with
          | none => rw [if_pos (by rfl)]; rfl
          | some i =>
            rcases nrQ_mem _ _ i cn with z | ⟨z, z1, z2⟩
            · cases z
            · obtain ⟨y1, y2, y3⟩ := isI_30 W (hRow.1 z z1).1
              rw [z2] at y1 y2 y3
              rw [if_neg (jo_some (by omega)), show jo (some i) = nj i from rfl, inb_nj (by omega), gd_t (decide_eq_true (by omega)), ix_nj (by omega), dat_15 j7.1 (x := 16) (by omega) (by omega)]
              rfl
end Ne
