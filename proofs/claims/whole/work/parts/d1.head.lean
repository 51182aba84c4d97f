/-! Layer C: the head of a TEXT, both sides: steps -/
theorem kiz_of {F A : List Nat} {p q : Mem} (h : Ch F A nil p q) (h1 : ∀ f, f ∈ F → f ∈ ItG) (h2 : ∀ f, f ∈ A → f ∈ [2, 3, 23, 24]) (h3 : (F.all fun f => decide (f < 256 ∨ 268 < f)) = true) : Kiz p q := ⟨h.mono h1 h2 (fun _ z => z), fun b hb f f1 f2 => h.2.2.1 f (fun w => by
  have := of_decide_eq_true (List.all_eq_true.mp h3 f w)
  omega) b hb⟩
theorem Kiz.trans {p q s : Mem} (h : Kiz p q) (k : Kiz q s) : Kiz p s := ⟨Ch.trans h.1 k.1, fun b hb f f1 f2 => by
  have y := h.2 b hb f f1 f2
  have z := k.2 b (Nat.lt_of_lt_of_le hb h.1.1.1) f f1 f2
  exact ⟨z.1.trans y.1, z.2.1.trans y.2.1, z.2.2.trans y.2.2⟩⟩
/-- what the head writes in the reference: the TEXT x -/
def Hr (x : Nat) (r r' : Mem) : Prop := Ch RtF [8, 9, 10, 11, 13, 35] nil r r' ∧ mC r' = mC r ∧ mS r' = mS r ∧ ∀ y j, 8 ≤ y → y ≤ 13 → j ≠ x → aI r' y j = aI r y j
theorem Hr.rfl {x : Nat} {r : Mem} : Hr x r r := ⟨Ch.rfl, by trivial, by trivial, fun _ _ _ _ _ => by trivial⟩
theorem Hr.trans {x : Nat} {r r1 r2 : Mem} (h : Hr x r r1) (k : Hr x r1 r2) : Hr x r r2 := ⟨Ch.trans h.1 k.1, k.2.1.trans h.2.1, k.2.2.1.trans h.2.2.1, fun y j y1 y2 y3 => (k.2.2.2 y j y1 y2 y3).trans (h.2.2.2 y j y1 y2 y3)⟩
theorem Hr.wI {x y : Nat} {v : Int32} {r r1 : Mem} (h : Hr x r r1) (hy : y ∈ [8, 9, 10, 11, 13]) : Hr x r (wI r1 y x v) := ⟨h.1.wI (Or.inl (by revert hy; simp only [List.mem_cons, List.not_mem_nil, or_false]; omega)), h.2.1, h.2.2.1, fun z j z1 z2 z3 => by rw [wI_lo (by omega)]; exact h.2.2.2 z j z1 z2 z3⟩
theorem Rt.hr {x : Nat} {r r1 : Mem} (h : Rt r r1) (h82 : 82 ≤ mC r) : Hr x r r1 := ⟨h.1.mono (fun _ z => z) (by decide) (fun _ z => z), h.2.1, h.2.2, fun y j y1 y2 _ => by rw [h.1.ai (by simp only [List.mem_cons, List.not_mem_nil, or_false]; omega) (fun z => z) (by omega)]⟩
def Hz (x nm : Nat) (p r p' r' : Mem) : Prop := Kiz p p' ∧ mC p' = mC p ∧ mS p' = mS p ∧ Hr x r r' ∧ (∀ k, k < min nm 60 → aL p' 23 k = aL p 23 k) ∧ (∀ k, k < nm → aL r' 35 k = aL r 35 k)
section Hz
variable {x nm nm1 : Nat} {p r p1 r1 p2 r2 : Mem}
theorem Hz.rfl : Hz x nm p r p r := ⟨⟨Ch.rfl, fun _ _ _ _ _ => ⟨by trivial, by trivial, by trivial⟩⟩, by trivial, by trivial, Hr.rfl, fun _ _ => by trivial, fun _ _ => by trivial⟩
theorem Hz.trans (h : Hz x nm p r p1 r1) (k : Hz x nm1 p1 r1 p2 r2) (hn : nm ≤ nm1) : Hz x nm p r p2 r2 := by
  obtain ⟨a1, a2, a3, a4, a5, a6⟩ := h
  obtain ⟨b1, b2, b3, b4, b5, b6⟩ := k
  exact ⟨a1.trans b1, b2.trans a2, b3.trans a3, a4.trans b4, fun k hk => (b5 k (by omega)).trans (a5 k hk), fun k hk => (b6 k (by omega)).trans (a6 k hk)⟩
theorem Hz.ps {f a : Nat} {v : Int32} (h : Hz x nm p r p1 r1) (hf : f ∈ ItG) (h2 : f < 256 ∨ 268 < f) : Hz x nm p r (sI p1 f a v) r1 := by
  obtain ⟨a1, a2, a3, a4, a5, a6⟩ := h
  exact ⟨⟨a1.1.sI hf, fun b hb g g1 g2 => by rw [k_mI_sI (by omega)]; exact a1.2 b hb g g1 g2⟩, a2, a3, a4, a5, a6⟩
theorem Hz.rs {y : Nat} {v : Int32} (h : Hz x nm p r p1 r1) (hy : y ∈ [8, 9, 10, 11, 13]) : Hz x nm p r p1 (wI r1 y x v) := by
  obtain ⟨a1, a2, a3, a4, a5, a6⟩ := h
  exact ⟨a1, a2, a3, a4.wI hy, a5, a6⟩
theorem hz_of (h1 : Ct p p1) (h2 : Rt r r1) (h82 : 82 ≤ mC r) (n1 : ∀ k, k < min nm 60 → aL p1 23 k = aL p 23 k) (n2 : ∀ k, k < nm → aL r1 35 k = aL r 35 k) : Hz x nm p r p1 r1 := ⟨kiz_of h1.1 (by decide) (by decide) (by decide), h1.2.1, h1.2.2, h2.hr h82, n1, n2⟩
theorem Bad.hz (h : Bad nm p r p1 r1) (h82 : 82 ≤ mC r) : Hz x nm p r p1 r1 := ⟨⟨(h.2.1 (mC p)).1, fun b hb => (h.2.1 (mC p)).2 b hb (by omega)⟩, h.2.2.1, h.2.2.2.1, h.2.2.2.2.1.hr h82, h.2.2.2.2.2.2.2.1, fun _ _ => by rw [h.2.2.2.2.2.2.2.2]⟩
end Hz
/-- the reference goes on after a failure within the head -/
def Rh (x : Nat) (r r' : Mem) : Prop := Hr x r r' ∧ aL r' 35 = aL r 35
section Hf
variable {x d q : Nat} {r : Mem} {x1 x2 : Int32}
def Hfi (x1 x2 : Int32) (m21 : Mem) : Option (Unit × Mem) := if x1 ≤ 1 then R_tellHead_96 x1 x2 m21 else bn (R_must 24 m21) fun _ m24 => bn (R_number 0 7 m24) fun r27 m28 => gd (inb (mI m24 1588 0) 25) (vb (wI m28 10 (ix (mI m24 1588 0)) r27) fun m34 => R_tellHead_96 x1 x2 m34)
def Hna (x1 x2 : Int32) (m9 : Mem) : Option (Unit × Mem) := bn (R_name m9) fun r10 m11 => gd (inb (mI m9 1588 0) 25) (vb (wI m11 9 (ix (mI m9 1588 0)) r10) fun m17 => gd (inb (mI m17 1588 0) 25) (vb (wI m17 10 (ix (mI m17 1588 0)) (-1)) fun m21 => Hfi x1 x2 m21))
theorem h27_e : R_tellHead_27 x1 r = bn (R_next r) fun _ m2 => gd (inb (mI m2 1588 0) 25) (vb (wI m2 8 (ix (mI m2 1588 0)) x1) fun m9 => Hna x1 (mI m2 1547 0) m9) := by
  unfold R_tellHead_27 Hna Hfi
  rfl
theorem Rh.rfl : Rh x r r := ⟨Hr.rfl, by trivial⟩
theorem Rh.trans {r1 r2 : Mem} (h : Rh x r r1) (k : Rh x r1 r2) : Rh x r r2 := ⟨h.1.trans k.1, k.2.trans h.2⟩
theorem Rh.wI {y : Nat} {v : Int32} {r1 : Mem} (h : Rh x r r1) (hy : y ∈ [8, 9, 10, 11, 13]) : Rh x r (wI r1 y x v) := ⟨h.1.wI hy, by rw [k_aL_wI]; exact h.2⟩
theorem h96_f (h : Rf r d q) (hx : mI r 1588 0 = nj x) (hx2 : x ≤ 23) : ∃ r', R_tellHead_96 x1 x2 r = some ((), r') ∧ Rf r' d q ∧ Rh x r r' := by
  unfold R_tellHead_96
  have h1 : Rf (wI r 11 x 0) d q := h.wI
  rw [must_f h, bn_s, number_f h, bn_s, hx, inb_nj (by omega), gd_t (decide_eq_true (by omega)), vb_e, ix_nj (by omega), must_f h1, bn_s, if_neg h1.ne.2.1]
  exact ⟨_, rfl, h1, Rh.rfl.wI (by decide)⟩
theorem hfi_f (h : Rf r d q) (hx : mI r 1588 0 = nj x) (hx2 : x ≤ 23) : ∃ r', Hfi x1 x2 r = some ((), r') ∧ Rf r' d q ∧ Rh x r r' := by
  unfold Hfi
  by_cases z : x1 ≤ 1
  · rw [if_pos z]
    exact h96_f h hx hx2
  · have h1 : Rf (wI r 10 x 0) d q := h.wI
    rw [if_neg z, must_f h, bn_s, number_f h, bn_s, hx, inb_nj (by omega), gd_t (decide_eq_true (by omega)), vb_e, ix_nj (by omega)]
    obtain ⟨r', a1, a2, a3⟩ := h96_f (x1 := x1) (x2 := x2) h1 (by rw [k_mI_wI]; exact hx) hx2
    exact ⟨r', a1, a2, Rh.trans (Rh.rfl.wI (by decide)) a3⟩
/-- behind the title -/
theorem hnb_f {v : Int32} (h : Rf r d q) (hx : mI r 1588 0 = nj x) (hx2 : x ≤ 23) : ∃ r', (gd (inb (nj x) 25) (vb (wI r 9 (ix (nj x)) v) fun m17 => gd (inb (mI m17 1588 0) 25) (vb (wI m17 10 (ix (mI m17 1588 0)) (-1)) fun m21 => Hfi x1 x2 m21))) = some ((), r') ∧ Rf r' d q ∧ Rh x r r' := by
  have h1 : Rf (wI (wI r 9 x v) 10 x (-1)) d q := (h.wI).wI
  rw [inb_nj (by omega), gd_t (decide_eq_true (by omega)), vb_e, k_mI_wI, hx, inb_nj (by omega), gd_t (decide_eq_true (by omega)), vb_e, ix_nj (by omega)]
  obtain ⟨r', a1, a2, a3⟩ := hfi_f (x1 := x1) (x2 := x2) h1 (by rw [k_mI_wI, k_mI_wI]; exact hx) hx2
  exact ⟨r', a1, a2, Rh.trans ((Rh.rfl.wI (by decide)).wI (by decide)) a3⟩
theorem hna_f (h : Rf r d q) (hx : mI r 1588 0 = nj x) (hx2 : x ≤ 23) : ∃ r', Hna x1 x2 r = some ((), r') ∧ Rf r' d q ∧ Rh x r r' := by
  unfold Hna
  rw [name_f h, bn_s, hx]
  exact hnb_f h hx hx2
theorem h27_f (h : Rf r d q) (hx : mI r 1588 0 = nj x) (hx2 : x ≤ 23) (h82 : 82 ≤ mC r) : ∃ r', R_tellHead_27 x1 r = some ((), r') ∧ Rf r' d q ∧ Rh x r r' := by
  rw [h27_e]
  obtain ⟨r1, a1, a2, a3⟩ := next_f h
  have hr1 : Rh x r r1 := ⟨(next_t a1).hr h82, (a3 0).1.al (by decide) (fun z => z) (by omega)⟩
  have hx1 : mI r1 1588 0 = nj x := by rw [(next_t a1).1.i (by decide) (by omega)]; exact hx
  have h1 : Rf (wI r1 8 x x1) d q := a2.wI
  rw [a1, bn_s, hx1, inb_nj (by omega), gd_t (decide_eq_true (by omega)), vb_e, ix_nj (by omega)]
  obtain ⟨r', b1, b2, b3⟩ := hna_f (x1 := x1) (x2 := mI r1 1547 0) h1 (by rw [k_mI_wI]; exact hx1) hx2
  exact ⟨r', b1, b2, Rh.trans (hr1.wI (by decide)) b3⟩
end Hf
