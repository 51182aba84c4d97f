/-! Layer C: faults that count late; INTS -/
def ntP (k q : Nat) (m : Mem) : Mem := if mI m 776 22 = 0 then sI (sI m 776 22 (nj k)) 777 22 (nj q) else m
def wrR (k q : Nat) (m : Mem) : Mem := if mI m 1551 0 = 0 then sI (sI m 1551 0 (nj k)) 1552 0 (nj q) else m
/-- late faults are the same, all ahead of byte b -/
def Lat (p r : Mem) (b : Nat) : Prop := mI p 776 22 = mI r 1551 0 ∧ (mI r 1551 0 ≠ 0 → mI p 777 22 = mI r 1552 0 ∧ ∃ q, q < b ∧ (q ≤ 2000 ∧ 0 < mI r 1551 0) ∧ mI r 1552 0 = nj q)
theorem Lat.mono {p r : Mem} {b b' : Nat} (h : Lat p r b) (hb : b ≤ b') : Lat p r b' := ⟨h.1, fun z => by
  obtain ⟨e, q, h1, h2, h3⟩ := h.2 z
  exact ⟨e, q, by omega, h2, h3⟩⟩
theorem Lat.same {p r p' r' : Mem} {b : Nat} (h : Lat p r b) (e1 : mI p' 776 22 = mI p 776 22) (e2 : mI p' 777 22 = mI p 777 22) (e3 : mI r' 1551 0 = mI r 1551 0) (e4 : mI r' 1552 0 = mI r 1552 0) : Lat p' r' b := by
  unfold Lat
  rw [e1, e2, e3, e4]
  exact h
theorem Lat.nt {p r : Mem} {k q : Nat} (h : Lat p r q) (hk : 0 < k) (hk2 : k < 100) (hq : q ≤ 2000) : Lat (ntP k q p) (wrR k q r) (q + 1) := by
  unfold ntP wrR
  rw [h.1]
  by_cases z : mI r 1551 0 = 0
  · rw [if_pos z, if_pos z]
    refine ⟨?_, fun _ => ⟨?_, q, by omega, ⟨hq, by rw [k_mI_sI (by omega), k_mI_sI_e, up1_ap, if_pos rfl, nj_l_lt (by omega) (by omega)]; exact hk⟩, ?_⟩⟩
    · rw [k_mI_sI (by omega), k_mI_sI_e, up1_ap, if_pos rfl, k_mI_sI (by omega), k_mI_sI_e, up1_ap, if_pos rfl]
    · rw [k_mI_sI_e, up1_ap, if_pos rfl, k_mI_sI_e, up1_ap, if_pos rfl]
    · rw [k_mI_sI_e, up1_ap, if_pos rfl]
  · rw [if_neg z, if_neg z]
    exact h.mono (by omega)
theorem ntP_o {k q f : Nat} {m : Mem} (h : f ≠ 776) (h2 : f ≠ 777) : mI (ntP k q m) f = mI m f := by
  unfold ntP
  split
  · rw [k_mI_sI h2, k_mI_sI h]
  · rfl
theorem wrR_o {k q f : Nat} {m : Mem} (h : f ≠ 1551) (h2 : f ≠ 1552) : mI (wrR k q m) f = mI m f := by
  unfold wrR
  split
  · rw [k_mI_sI h2, k_mI_sI h]
  · rfl
theorem ntP_x {k q : Nat} {m : Mem} : mC (ntP k q m) = mC m ∧ mS (ntP k q m) = mS m ∧ aI (ntP k q m) = aI m ∧ aL (ntP k q m) = aL m ∧ aR (ntP k q m) = aR m ∧ mT (ntP k q m) = mT m ∧ mN (ntP k q m) = mN m ∧ mL (ntP k q m) = mL m ∧ mR (ntP k q m) = mR m := by
  unfold ntP
  split
  · exact ⟨rfl, rfl, rfl, rfl, rfl, rfl, rfl, rfl, rfl⟩
  · exact ⟨rfl, rfl, rfl, rfl, rfl, rfl, rfl, rfl, rfl⟩
theorem wrR_x {k q : Nat} {m : Mem} : mC (wrR k q m) = mC m ∧ mS (wrR k q m) = mS m ∧ aI (wrR k q m) = aI m ∧ aL (wrR k q m) = aL m := by
  unfold wrR
  split
  · exact ⟨rfl, rfl, rfl, rfl⟩
  · exact ⟨rfl, rfl, rfl, rfl⟩
theorem ntP_Ch {F A : List Nat} {p m : Mem} {k q : Nat} (h : Ch F A nil p m) (h1 : 776 ∈ F) (h2 : 777 ∈ F) : Ch F A nil p (ntP k q m) := by
  unfold ntP
  split
  · exact (h.sI h1).sI h2
  · exact h
theorem wrR_Ch {F A : List Nat} {p m : Mem} {k q : Nat} (h : Ch F A nil p m) (h1 : 1551 ∈ F) (h2 : 1552 ∈ F) : Ch F A nil p (wrR k q m) := by
  unfold wrR
  split
  · exact (h.sI h1).sI h2
  · exact h
theorem late_e {m : Mem} {t q : Nat} (k : Nat) (hm : mI m 779 22 = nj t) (ht : t ≤ 500) (hq : aI m 19 t = nj q) : P_Parser_noteLate (nj k) m = some ((), ntP k q m) := by
  unfold P_Parser_noteLate ntP
  by_cases z : mI m 776 22 = 0
  · rw [if_pos z, if_pos z, vb_e, k_mI_sI (by omega), hm, inb_nj (by omega), gd_t (decide_eq_true (by omega)), vb_e, k_aI_sI, ix_nj (by omega), hq]
  · rw [if_neg z, if_neg z]
theorem wrong_e {m : Mem} {t q : Nat} (k : Nat) (h0 : mI m 1549 0 = 0) (ht : t ≤ 500) (hq : aI m 4 t = nj q) (hq2 : q ≤ 2000) (hl : mI m 1551 0 ≠ 0 → ∃ q', q' < q ∧ mI m 1552 0 = nj q') : R_wrong (nj k) (nj t) m = some ((), wrR k q m) := by
  unfold R_wrong wrR R_wrong_46
  rw [inb_nj (by omega), gd_t (decide_eq_true (by omega)), vb_e, ix_nj (by omega), hq, h0, if_neg (show ¬ (0 : Int32) < 0 by decide)]
  by_cases z : mI m 1551 0 = 0
  · rw [if_pos z, if_pos z, vb_e, vb_e]
  · obtain ⟨q', h1, h2⟩ := hl z
    rw [if_neg z, if_neg z, h2, if_pos (by rw [nj_lt (by omega) (by omega)]; exact h1)]
section Nb
variable {N : Nat} {kd pl : Nat → Nat} {p r : Mem} {t : Nat}
/-- an INT in the reference -/
theorem number_r (h : Toks p r N kd pl) (ht : t < N) (h7 : mI r 1547 0 = nj t) (h0 : mI r 1549 0 = 0) (hl : mI r 1551 0 ≠ 0 → ∃ q', q' < pl t ∧ mI r 1552 0 = nj q') (lo hi : Nat) (hlo : lo < 10000) (hhi : hi < 10000) :
    (kd t = 3 → ∃ v, v ≤ 9999 ∧ Int64.toInt32 (aL p 20 t) = nj v ∧ (t < 500 → R_number (nj lo) (nj hi) r = some (nj v, if lo ≤ v ∧ v ≤ hi then sI r 1547 0 (nj (t + 1)) else wrR 5 (pl t) (sI r 1547 0 (nj (t + 1))))) ∧ (t = 500 → ∃ r', R_number (nj lo) (nj hi) r = some (nj v, r') ∧ Rf r' 2 (pl t) ∧ ∀ C, Rx C r r')) ∧
    (kd t ≠ 3 → ∃ r', R_number (nj lo) (nj hi) r = some (0, r') ∧ Rf r' 1 (pl t) ∧ ∀ C, Rx C r r') := by
  have hN := h.2.1
  obtain ⟨k1, k2, k3, k4, k5, k6, k7, k8⟩ := h.2.2.2.2 t ht
  have eis := is_r h0 h7 (by omega) k4 k1 3 (by omega) (x := 2) rfl
  unfold R_number
  rw [vb_e, eis, bn_s, h7]
  refine ⟨fun z => ?_, fun z => ?_⟩
  · obtain ⟨v, v1, v2, v3⟩ := k8 z
    refine ⟨v, v1, v2, ?_⟩
    rw [decide_eq_true z, tI_t, if_neg (show ¬ (1 : Int32) = 0 by decide), inb_nj (by omega), gd_t (decide_eq_true (by omega)), ix_nj (by omega), v3]
    unfold R_number_26 R_must R_number_52
    rw [eis, bn_s, decide_eq_true z, tI_t, if_neg (show ¬ (1 : Int32) = 0 by decide)]
    obtain ⟨n1, n2⟩ := next_r h0 h7 (by omega) k6
    refine ⟨fun w => ?_, fun w => ?_⟩
    · have h0' : mI (sI r 1547 0 (nj (t + 1))) 1549 0 = 0 := by rw [k_mI_sI (by omega)]; exact h0
      rw [n1 w, bn_s, bn_s, if_pos h0']
      have ew : R_wrong 5 (nj t) (sI r 1547 0 (nj (t + 1))) = some ((), wrR 5 (pl t) (sI r 1547 0 (nj (t + 1)))) := wrong_e 5 h0' (by omega) (by rw [k_aI_sI]; exact k6) k2 (by rw [k_mI_sI (by omega), k_mI_sI (by omega)]; exact hl)
      rw [ew, bn_s]
      by_cases a : v < lo
      · rw [if_pos (by rw [nj_lt (by omega) (by omega)]; exact a), if_neg (by omega)]
      · rw [if_neg (by rw [nj_lt (by omega) (by omega)]; exact a)]
        by_cases b : v ≤ hi
        · rw [if_pos (by rw [nj_le (by omega) (by omega)]; exact b), if_pos (by omega)]
        · rw [if_neg (by rw [nj_le (by omega) (by omega)]; exact b), if_neg (by omega)]
    · obtain ⟨r', a1, a2, a3⟩ := n2 w
      rw [a1, bn_s, bn_s, if_neg a2.ne.1]
      exact ⟨r', rfl, a2, a3⟩
  · rw [decide_eq_false z, tI_f, if_pos rfl]
    unfold R_number_26 R_must
    rw [eis, bn_s, decide_eq_false z, tI_f, if_pos rfl]
    obtain ⟨r', a1, a2, a3⟩ := fail_r (c := 1) h0 h7 (by omega) k6 (Or.inl rfl)
    have a1' : R_fail 1 r = some ((), r') := a1
    rw [a1', bn_s, bn_s, if_neg a2.ne.1]
    exact ⟨r', rfl, a2, a3⟩
/-- in a failed state -/
theorem number_f {c q : Nat} (h : Rf r c q) (lo hi : Int32) : R_number lo hi r = some (0, r) := by
  unfold R_number R_number_26
  rw [vb_e, is_f h, bn_s, if_pos rfl, must_f h, bn_s, if_neg h.ne.1]
theorem name_f {c q : Nat} (h : Rf r c q) : R_name r = some (0, r) := by
  unfold R_name
  rw [vb_e, must_f h, bn_s, if_neg h.ne.2.1]
theorem expr_f {c q : Nat} (h : Rf r c q) : ∃ r', R_expression r = some ((), r') ∧ Rf r' c q ∧ (∀ C, Rx C r r') ∧ mI r' 1581 = mI r 1581 := by
  unfold R_expression
  have h' : Rf (sI r 1590 0 0) c q := ⟨h.1, by rw [k_mI_sI (by omega)]; exact h.2.1, by rw [k_mI_sI (by omega)]; exact h.2.2.1, by rw [k_mI_sI (by omega)]; exact h.2.2.2⟩
  obtain ⟨n, hn⟩ : ∃ n, FU = n + 1 := ⟨FU - 1, by unfold FU; omega⟩
  rw [vb_e, vb_e, hn, R12_f h']
  exact ⟨_, rfl, h', fun C => Rx.rfl.sI (by decide), by rw [k_mI_sI (by omega)]⟩
/-- what a COND may change; lits below l, codes below c stay -/
def RkF : List Nat := [1551, 1552, 1580, 1547, 1548, 1549, 1550, 1581, 1590]
def Rk (l c : Nat) (r r' : Mem) : Prop := Ch RkF [27, 28, 29, 30, 31, 32, 33, 34, 36] nil r r' ∧ mC r' = mC r ∧ mS r' = mS r ∧ (∀ j, j < c → aI r' 33 j = aI r 33 j ∧ aI r' 34 j = aI r 34 j) ∧ ∀ j, j < l → ∀ x, 27 ≤ x → x ≤ 32 → aI r' x j = aI r x j
theorem Rk.rfl {l c : Nat} {r : Mem} : Rk l c r r := ⟨Ch.rfl, by trivial, by trivial, fun _ _ => ⟨by trivial, by trivial⟩, fun _ _ _ _ _ => by trivial⟩
theorem Rk.trans {l c : Nat} {r r1 r2 : Mem} (h : Rk l c r r1) (k : Rk l c r1 r2) : Rk l c r r2 := ⟨Ch.trans h.1 k.1, k.2.1.trans h.2.1, k.2.2.1.trans h.2.2.1, fun j hj => ⟨(k.2.2.2.1 j hj).1.trans (h.2.2.2.1 j hj).1, (k.2.2.2.1 j hj).2.trans (h.2.2.2.1 j hj).2⟩, fun j hj x h1 h2 => (k.2.2.2.2 j hj x h1 h2).trans (h.2.2.2.2 j hj x h1 h2)⟩
theorem Rk.mono {l c l' c' : Nat} {r r1 : Mem} (h : Rk l c r r1) (hl : l' ≤ l) (hc : c' ≤ c) : Rk l' c' r r1 := ⟨h.1, h.2.1, h.2.2.1, fun j hj => h.2.2.2.1 j (by omega), fun j hj => h.2.2.2.2 j (by omega)⟩
theorem Rx.rk {l c : Nat} {r r1 : Mem} (h : Rx c r r1) (h82 : 82 ≤ mC r) : Rk l c r r1 := ⟨h.1.mono (by decide) (by decide) (fun _ z => z), h.2.1, h.2.2.1, h.2.2.2, fun j _ x h1 h2 => by
  rw [(h.1.2.2.2 x (by simp only [List.mem_cons, List.not_mem_nil, or_false]; omega) (fun z => z) (by omega)).1]⟩
theorem Rk.sI {l c f a : Nat} {x : Int32} {r r1 : Mem} (h : Rk l c r r1) (hf : f ∈ RkF) : Rk l c r (sI r1 f a x) := ⟨h.1.sI hf, h.2.1, h.2.2.1, h.2.2.2.1, h.2.2.2.2⟩
theorem Rk.wr {l c k q : Nat} {r r1 : Mem} (h : Rk l c r r1) : Rk l c r (wrR k q r1) := by
  unfold wrR
  split
  · exact (h.sI (by decide)).sI (by decide)
  · exact h
theorem Rk.wI {l c b j : Nat} {x : Int32} {r r1 : Mem} (h : Rk l c r r1) (hb : b ∈ [27, 28, 29, 30, 31, 32]) (hj : l ≤ j) : Rk l c r (wI r1 b j x) := by
  refine ⟨h.1.wI (Or.inl (by simp only [List.mem_cons, List.not_mem_nil, or_false] at hb ⊢; omega)), h.2.1, h.2.2.1, fun i hi => ?_, fun i hi y h1 h2 => ?_⟩
  · simp only [List.mem_cons, List.not_mem_nil, or_false] at hb
    rw [wI_lo (by omega), wI_lo (by omega)]
    exact h.2.2.2.1 i hi
  · rw [wI_lo (by omega)]
    exact h.2.2.2.2 i hi y h1 h2
theorem Toks.rk {l c : Nat} {r' : Mem} (h : Toks p r N kd pl) (x : Rk l c r r') (hp : 82 ≤ mC r) : Toks p r' N kd pl :=
  h.keep rfl rfl rfl (x.1.2.2.2 3 (by decide) (fun z => z) (by omega)).1 (x.1.2.2.2 4 (by decide) (fun z => z) (by omega)).1 (x.1.2.2.2 5 (by decide) (fun z => z) (by omega)).1 (x.1.2.2.2 6 (by decide) (fun z => z) (by omega)).2.1
end Nb
