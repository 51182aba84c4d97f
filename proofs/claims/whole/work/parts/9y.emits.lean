/-! Layer C: the reference's formulas, as lists -/
def RxF : List Nat := [1547, 1548, 1549, 1550, 1581, 1590]
/-- what an E may change; codes below c stay -/
def Rx (c : Nat) (r r' : Mem) : Prop := Ch RxF [33, 34, 36] nil r r' ∧ mC r' = mC r ∧ mS r' = mS r ∧ ∀ j, j < c → aI r' 33 j = aI r 33 j ∧ aI r' 34 j = aI r 34 j
theorem wI_lo {m : Mem} {a b i j : Nat} {x : Int32} (h : i ≠ j ∨ b ≠ a) : aI (wI m a j x) b i = aI m b i := by
  by_cases z : b = a
  · subst z
    rw [k_aI_wI_e, up1_ap, if_neg (by omega)]
  · rw [k_aI_wI z]
section Rb
variable {c : Nat} {r r1 r2 : Mem}
theorem Rx.rfl : Rx c r r := ⟨Ch.rfl, by trivial, by trivial, fun _ _ => ⟨by trivial, by trivial⟩⟩
theorem Rx.trans (h : Rx c r r1) (k : Rx c r1 r2) : Rx c r r2 := ⟨Ch.trans h.1 k.1, k.2.1.trans h.2.1, k.2.2.1.trans h.2.2.1, fun j hj => ⟨(k.2.2.2 j hj).1.trans (h.2.2.2 j hj).1, (k.2.2.2 j hj).2.trans (h.2.2.2 j hj).2⟩⟩
theorem Rx.sI {f a : Nat} {x : Int32} (h : Rx c r r1) (hf : f ∈ RxF) : Rx c r (sI r1 f a x) := ⟨h.1.sI hf, h.2.1, h.2.2.1, h.2.2.2⟩
theorem Rx.wI {a j : Nat} {x : Int32} (h : Rx c r r1) (ha : a ∈ [33, 34, 36]) (hj : c ≤ j ∨ a = 36) : Rx c r (wI r1 a j x) := by
  refine ⟨h.1.wI (Or.inl ha), h.2.1, h.2.2.1, fun i hi => ?_⟩
  have h4 := h.2.2.2 i hi
  rw [wI_lo (by omega), wI_lo (by omega)]
  exact h4
end Rb
/-- codes L stand from c on -/
def Seg (r : Mem) (c : Nat) (L : List (Nat × Nat)) : Prop := ∀ j kv, L[j]? = some kv → aI r 33 (c + j) = nj kv.1 ∧ aI r 34 (c + j) = nj kv.2
theorem Seg.Rx {r r' : Mem} {c c1 : Nat} {L : List (Nat × Nat)} (h : Seg r c L) (hc : c + L.length ≤ c1) (x : Rx c1 r r') : Seg r' c L := fun j kv hj => by
  have hl : j < L.length := (List.getElem?_eq_some_iff.mp hj).1
  have := x.2.2.2 (c + j) (by omega)
  rw [this.1, this.2]
  exact h j kv hj
def cnt (V : List Nat) : Nat := V.count 14
def opV (v : Nat) : Prop := v = 6 ∨ v = 7 ∨ v = 8 ∨ v = 9 ∨ v = 14
def OpV (V : List Nat) : Prop := ∀ v, v ∈ V → opV v
/-- the reference within an E: codes L from c on, signs V that wait -/
def Es (r : Mem) (c : Nat) (L : List (Nat × Nat)) (V : List Nat) : Prop := mI r 1548 0 = nj (cnt V) ∧ mI r 1590 0 = nj V.length ∧ Stk (aI r 36) (V.map fun v => nj (kM v)) ∧ mI r 1581 0 = nj (c + L.length) ∧ Seg r c L
theorem Seg.snoc {f g : Nat → Int32} {c k v : Nat} {L : List (Nat × Nat)} (h : ∀ j kv, L[j]? = some kv → f (c + j) = nj kv.1 ∧ g (c + j) = nj kv.2) : ∀ j kv, (L ++ [(k, v)])[j]? = some kv → up1 f (c + L.length) (nj k) (c + j) = nj kv.1 ∧ up1 g (c + L.length) (nj v) (c + j) = nj kv.2 := by
  intro j kv hj
  rw [up1_ap, up1_ap]
  by_cases z : j = L.length
  · rw [if_pos (by omega), if_pos (by omega)]
    rw [z, List.getElem?_append_right (Nat.le_refl _), Nat.sub_self] at hj
    have := Option.some.inj hj
    rw [← this]
    exact ⟨rfl, rfl⟩
  · rw [if_neg (by omega), if_neg (by omega)]
    by_cases y : j < L.length
    · rw [List.getElem?_append_left y] at hj
      exact h j kv hj
    · have := List.getElem?_eq_none (l := L ++ [(k, v)]) (i := j) (by simp; omega)
      rw [this] at hj
      cases hj
section Rc
variable {r : Mem} {c k v : Nat} {L : List (Nat × Nat)} {V : List Nat}
theorem emit_e (h : Es r c L V) (hc : c + L.length < 12500) : ∃ r', R_emit (nj k) (nj v) r = some ((), r') ∧ Es r' c (L ++ [(k, v)]) V ∧ Rx c r r' ∧ mI r' 1547 = mI r 1547 ∧ mI r' 1549 = mI r 1549 ∧ mI r' 1550 = mI r 1550 := by
  obtain ⟨h1, h2, h3, h4, h5⟩ := h
  unfold R_emit
  rw [h4, inb_nj (by omega), gd_t (decide_eq_true hc), vb_e, k_mI_wI, h4, inb_nj (by omega), gd_t (decide_eq_true hc), vb_e, vb_e, k_mI_wI, k_mI_wI, h4, nj_add_l, ix_nj (by omega)]
  refine ⟨_, rfl, ⟨?_, ?_, ?_, ?_, ?_⟩, ((Rx.rfl.wI (by decide) (Or.inl (by omega))).wI (by decide) (Or.inl (by omega))).sI (by decide), by rw [k_mI_sI (by omega), k_mI_wI, k_mI_wI], by rw [k_mI_sI (by omega), k_mI_wI, k_mI_wI], by rw [k_mI_sI (by omega), k_mI_wI, k_mI_wI]⟩
  · rw [k_mI_sI (by omega), k_mI_wI, k_mI_wI]; exact h1
  · rw [k_mI_sI (by omega), k_mI_wI, k_mI_wI]; exact h2
  · rw [k_aI_sI, k_aI_wI (by omega), k_aI_wI (by omega)]; exact h3
  · rw [k_mI_sI_e, up1_ap, if_pos rfl, List.length_append]
    rfl
  · unfold Seg
    rw [k_aI_sI, k_aI_wI (show 33 ≠ 34 by omega), k_aI_wI_e, k_aI_wI_e, k_aI_wI (show 34 ≠ 33 by omega)]
    exact Seg.snoc h5
end Rc
/-- what comes out; strong: stops at + and - too -/
def pO (s : Bool) : List Nat → List Nat × List Nat
  | [] => ([], [])
  | v :: V => if v = 14 ∨ (s = true ∧ (v = 6 ∨ v = 7)) then ([], v :: V) else (v :: (pO s V).1, (pO s V).2)
def cdV (V : List Nat) : List (Nat × Nat) := V.map fun v => (v - 4, 0)
theorem pO_len (s : Bool) : ∀ V, (pO s V).1.length + (pO s V).2.length = V.length
  | [] => rfl
  | v :: V => by
    have ih := pO_len s V
    unfold pO
    split
    · simp
    · simp; omega
theorem pO_cnt (s : Bool) : ∀ V, cnt (pO s V).2 = cnt V
  | [] => rfl
  | v :: V => by
    have ih := pO_cnt s V
    unfold pO
    split
    · rfl
    · next h =>
      show cnt (pO s V).2 = cnt (v :: V)
      rw [ih]
      unfold cnt
      rw [List.count_cons_of_ne (by omega)]
theorem pO_op (s : Bool) : ∀ V, OpV V → OpV (pO s V).2 ∧ OpV (pO s V).1 ∧ ∀ v, v ∈ (pO s V).1 → v ≠ 14
  | [], h => ⟨h, h, fun v hv => by cases hv⟩
  | v :: V, h => by
    have ih := pO_op s V (fun w hw => h w (by simp [hw]))
    unfold pO
    split
    · exact ⟨h, (fun w hw => by cases hw), fun w hw => by cases hw⟩
    · next q =>
      refine ⟨ih.1, fun w hw => ?_, fun w hw => ?_⟩
      · rcases List.mem_cons.mp hw with e | e
        · rw [e]; exact h v (by simp)
        · exact ih.2.1 w e
      · rcases List.mem_cons.mp hw with e | e
        · rw [e]; omega
        · exact ih.2.2 w e
theorem kM_op {v : Nat} (h : opV v) : (nj (kM v) = 6) = (v = 14) ∧ (nj (kM v) = 8) = (v = 6) ∧ (nj (kM v) = 9) = (v = 7) ∧ (nj (kM v) = 10) = (v = 8) := by
  rcases h with rfl | rfl | rfl | rfl | rfl <;> decide
theorem comes_e {s : Bool} {c : Nat} : ∀ (V : List Nat) (L : List (Nat × Nat)) (r : Mem) (fu : Nat), Es r c L V → OpV V → V.length ≤ 60 → c + L.length + V.length < 12500 → V.length < fu →
    ∃ r', R_comesOut_0 fu (tI s) r = some ((), r') ∧ Es r' c (L ++ cdV (pO s V).1) (pO s V).2 ∧ Rx c r r' ∧ mI r' 1547 = mI r 1547 ∧ mI r' 1549 = mI r 1549 ∧ mI r' 1550 = mI r 1550
  | [], L, r, fu + 1, h, _, _, _, _ => by
    rw [R_comesOut_0.eq_2, h.2.1, if_pos (by decide)]
    refine ⟨r, rfl, ?_, Rx.rfl, rfl, rfl, rfl⟩
    have e : L ++ cdV (pO s []).1 = L := List.append_nil L
    rw [e]
    exact h
  | v :: V, L, r, fu + 1, h, ho, h1, h2, h3 => by
    have h' := h
    obtain ⟨g1, g2, g3, g4, g5⟩ := h'
    have g2' : mI r 1590 0 = nj (V.length + 1) := g2
    simp only [List.length_cons] at h1 h2 h3
    have ov := ho v (by simp)
    have top : aI r 36 V.length = nj (kM v) := by
      have := g3.1
      simp only [List.length_map] at this
      exact this
    obtain ⟨k1, k2, k3, k4⟩ := kM_op ov
    have e : pO s (v :: V) = if v = 14 ∨ (s = true ∧ (v = 6 ∨ v = 7)) then ([], v :: V) else (v :: (pO s V).1, (pO s V).2) := rfl
    rw [R_comesOut_0.eq_2, g2', if_neg (by rw [nj_le_l (by omega) (by omega)]; omega), nj_sub_l (by omega), show V.length + 1 - OfNat.ofNat 1 = V.length from rfl, inb_nj (by omega), gd_t (decide_eq_true (by omega)), ix_nj (by omega), vb_e, top]
    simp only [k1, k2, k3]
    have stay : ([], v :: V) = pO s (v :: V) → ∃ r', some ((), r) = some ((), r') ∧ Es r' c (L ++ cdV (pO s (v :: V)).1) (pO s (v :: V)).2 ∧ Rx c r r' ∧ mI r' 1547 = mI r 1547 ∧ mI r' 1549 = mI r 1549 ∧ mI r' 1550 = mI r 1550 := by
      intro q
      rw [← q]
      refine ⟨r, rfl, ?_, Rx.rfl, rfl, rfl, rfl⟩
      have e : L ++ cdV [] = L := List.append_nil L
      rw [e]
      exact h
    have go : v ≠ 14 → (v :: (pO s V).1, (pO s V).2) = pO s (v :: V) → ∃ r', R_comesOut_42 (fun z0 z1 => R_comesOut_0 fu z0 z1) (tI s) (nj (kM v)) r = some ((), r') ∧ Es r' c (L ++ cdV (pO s (v :: V)).1) (pO s (v :: V)).2 ∧ Rx c r r' ∧ mI r' 1547 = mI r 1547 ∧ mI r' 1549 = mI r 1549 ∧ mI r' 1550 = mI r 1550 := by
      intro hv q
      have f1 : Es (sI r 1590 0 (nj V.length)) c L V := ⟨by rw [k_mI_sI (by omega), g1]; unfold cnt; rw [List.count_cons_of_ne (by omega)], by rw [k_mI_sI_e, up1_ap, if_pos rfl], by rw [k_aI_sI]; exact g3.2, by rw [k_mI_sI (by omega)]; exact g4, by unfold Seg; rw [k_aI_sI]; exact g5⟩
      obtain ⟨r1, a1, a2, a3, a4, a5, a6⟩ := emit_e (k := v - 4) (v := 0) f1 (by omega)
      obtain ⟨r2, b1, b2, b3, b4, b5, b6⟩ := comes_e (s := s) V _ r1 fu a2 (fun w hw => ho w (by simp [hw])) (by omega) (by simp; omega) (by omega)
      have eq : R_comesOut_42 (fun z0 z1 => R_comesOut_0 fu z0 z1) (tI s) (nj (kM v)) r = R_comesOut_84 (fun z0 z1 => R_comesOut_0 fu z0 z1) (tI s) (nj (v - 4)) (sI r 1590 0 (nj V.length)) := by
        unfold R_comesOut_42
        rw [vb_e, g2', nj_sub_l (by omega), show V.length + 1 - OfNat.ofNat 1 = V.length from rfl]
        rcases ov with rfl | rfl | rfl | rfl | rfl
        · rfl
        · rfl
        · rfl
        · rfl
        · exact absurd rfl hv
      rw [eq, ← q]
      unfold R_comesOut_84
      have a1' : R_emit (nj (v - 4)) 0 (sI r 1590 0 (nj V.length)) = _ := a1
      rw [a1', bn_s]
      refine ⟨r2, b1, ?_, Rx.trans (Rx.trans (Rx.rfl.sI (by decide)) a3) b3, by rw [b4, a4, k_mI_sI (by omega)], by rw [b5, a5, k_mI_sI (by omega)], by rw [b6, a6, k_mI_sI (by omega)]⟩
      have es : L ++ [(v - 4, 0)] ++ cdV (pO s V).1 = L ++ cdV (v :: (pO s V).1) := by
        rw [List.append_assoc]
        rfl
      rw [es] at b2
      exact b2
    by_cases z : v = 14
    · rw [if_pos z]
      exact stay (by rw [e, if_pos (Or.inl z)])
    · rw [if_neg z]
      cases s with
      | false =>
        rw [tI_f, if_pos rfl]
        exact go z (by rw [e, if_neg (by rintro (w | ⟨w, _⟩); exact z w; cases w)])
      | true =>
        rw [tI_t, if_neg (show ¬ (1 : Int32) = 0 by decide)]
        by_cases y6 : v = 6
        · rw [if_pos y6]
          exact stay (by rw [e, if_pos (Or.inr ⟨rfl, Or.inl y6⟩)])
        · rw [if_neg y6]
          by_cases y7 : v = 7
          · rw [if_pos y7]
            exact stay (by rw [e, if_pos (Or.inr ⟨rfl, Or.inr y7⟩)])
          · rw [if_neg y7]
            exact go z (by rw [e, if_neg (by omega)])
/-- the reference has failed with c at byte q -/
def Rf (r : Mem) (c q : Nat) : Prop := (c = 1 ∨ c = 2) ∧ mI r 1549 0 = nj c ∧ mI r 1550 0 = nj q ∧ ∃ u, u ≤ 500 ∧ mI r 1547 0 = nj u
section Rd
variable {r : Mem} {c q t k : Nat}
theorem Rf.ne (h : Rf r c q) : ¬ mI r 1549 0 = 0 ∧ ¬ mI r 1549 0 ≤ 0 ∧ 0 < mI r 1549 0 := by
  obtain ⟨h1, h2, -⟩ := h
  rw [h2]
  rcases h1 with rfl | rfl <;> decide
theorem is_f (h : Rf r c q) (x : Int32) : R_is x r = some (0, r) := by
  unfold R_is
  rw [if_neg h.ne.1]
theorem fail_f (h : Rf r c q) (x : Int32) : R_fail x r = some ((), r) := by
  unfold R_fail
  rw [if_neg h.ne.2.1]
theorem next_f (h : Rf r c q) : ∃ r', R_next r = some ((), r') ∧ Rf r' c q ∧ ∀ C, Rx C r r' := by
  have h' := h
  obtain ⟨h1, h2, h3, u, h4, h5⟩ := h'
  unfold R_next
  rw [h5]
  by_cases z : u = 500
  · rw [if_pos (by rw [nj_eq_l (by omega) (by omega)]; exact z), fail_f h, bn_s]
    exact ⟨r, rfl, h, fun C => Rx.rfl⟩
  · rw [if_neg (by rw [nj_eq_l (by omega) (by omega)]; exact z), vb_e, nj_add_l]
    exact ⟨_, rfl, ⟨h1, by rw [k_mI_sI (by omega)]; exact h2, by rw [k_mI_sI (by omega)]; exact h3, u + 1, by omega, by rw [k_mI_sI_e, up1_ap, if_pos rfl]⟩, fun C => Rx.rfl.sI (by decide)⟩
theorem must_f (h : Rf r c q) (x : Int32) : R_must x r = some ((), r) := by
  unfold R_must
  rw [is_f h, bn_s, if_pos rfl, fail_f h, bn_s]
/-- the reference fails -/
theorem fail_r (h0 : mI r 1549 0 = 0) (ht : mI r 1547 0 = nj t) (h5 : t ≤ 500) (hq : aI r 4 t = nj q) (hc : c = 1 ∨ c = 2) : ∃ r', R_fail (nj c) r = some ((), r') ∧ Rf r' c q ∧ ∀ C, Rx C r r' := by
  unfold R_fail
  rw [h0, if_pos (by decide), vb_e, k_mI_sI (by omega), ht, inb_nj (by omega), gd_t (decide_eq_true (by omega)), vb_e, k_aI_sI, ix_nj (by omega), hq]
  exact ⟨_, rfl, ⟨hc, by rw [k_mI_sI (by omega), k_mI_sI_e, up1_ap, if_pos rfl], by rw [k_mI_sI_e, up1_ap, if_pos rfl], t, h5, by rw [k_mI_sI (by omega), k_mI_sI (by omega)]; exact ht⟩, fun C => (Rx.rfl.sI (by decide)).sI (by decide)⟩
theorem next_r (h0 : mI r 1549 0 = 0) (ht : mI r 1547 0 = nj t) (h5 : t ≤ 500) (hq : aI r 4 t = nj q) : (t < 500 → R_next r = some ((), sI r 1547 0 (nj (t + 1)))) ∧ (t = 500 → ∃ r', R_next r = some ((), r') ∧ Rf r' 2 q ∧ ∀ C, Rx C r r') := by
  unfold R_next
  rw [ht]
  refine ⟨fun z => ?_, fun z => ?_⟩
  · rw [if_neg (by rw [nj_eq_l (by omega) (by omega)]; omega), vb_e, nj_add_l]
  · rw [if_pos (by rw [nj_eq_l (by omega) (by omega)]; exact z)]
    obtain ⟨r', a1, a2, a3⟩ := fail_r (c := 2) h0 ht h5 hq (Or.inr rfl)
    have a1' : R_fail 2 r = _ := a1
    rw [a1', bn_s]
    exact ⟨r', rfl, a2, a3⟩
theorem is_r (h0 : mI r 1549 0 = 0) (ht : mI r 1547 0 = nj t) (h5 : t ≤ 500) (hk : aI r 3 t = nj (kM k)) (h60 : k < 60) (k' : Nat) (h60' : k' < 60) {x : Int32} (hx : x = nj (kM k')) : R_is x r = some (tI (decide (k = k')), r) := by
  unfold R_is
  rw [h0, if_pos rfl, ht, inb_nj (by omega), gd_t (decide_eq_true (by omega)), ix_nj (by omega), hk, hx]
  have b : ∀ j, j < 60 → kM j < 60 := by decide +kernel
  have e : (nj (kM k) = nj (kM k')) = (k = k') := by
    have b1 := b k h60
    have b2 := b k' h60'
    rw [nj_inj (by omega) (by omega)]
    exact propext ⟨kM_inj k h60 k' h60', fun w => by rw [w]⟩
  by_cases z : k = k'
  · rw [if_pos (e.mpr z), decide_eq_true z]
    rfl
  · rw [if_neg (fun w => z (e.mp w)), decide_eq_false z]
    rfl
end Rd
