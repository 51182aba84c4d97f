/-! Layer C: kinds, INTS and NAMES taken, both sides -/
def CtF : List Nat := [771, 776, 777, 778, 779, 780]
def Ct (p p' : Mem) : Prop := Ch CtF [23] nil p p' ∧ mC p' = mC p ∧ mS p' = mS p
def RtF : List Nat := [1547, 1549, 1550, 1551, 1552, 1585, 1587]
def Rt (r r' : Mem) : Prop := Ch RtF [35] nil r r' ∧ mC r' = mC r ∧ mS r' = mS r
/-- both fail -/
def Bad (nm : Nat) (p r p' r' : Mem) : Prop := Fld p' r' ∧ (∀ a, Cz a p p') ∧ mC p' = mC p ∧ mS p' = mS p ∧ Rt r r' ∧ mI r' 1581 = mI r 1581 ∧ mI r' 1580 = mI r 1580 ∧ (∀ k, k < min nm 60 → aL p' 23 k = aL p 23 k) ∧ aL r' 35 = aL r 35
section Ct
variable {p p' p'' r r' r'' : Mem}
theorem Ct.rfl : Ct p p := ⟨Ch.rfl, by trivial, by trivial⟩
theorem Ct.trans (h : Ct p p') (k : Ct p' p'') : Ct p p'' := ⟨Ch.trans h.1 k.1, k.2.1.trans h.2.1, k.2.2.trans h.2.2⟩
theorem Ct.sI {f a : Nat} {x : Int32} (h : Ct p p') (hf : f ∈ CtF) : Ct p (sI p' f a x) := ⟨h.1.sI hf, h.2.1, h.2.2⟩
theorem Ct.nt {k q : Nat} (h : Ct p p') : Ct p (ntP k q p') := ⟨ntP_Ch h.1 (by decide) (by decide), by rw [ntP_x.1]; exact h.2.1, by rw [ntP_x.2.1]; exact h.2.2⟩
theorem Ct.cz {a : Nat} (h : Ct p p') : Cz a p p' := cz_of h.1 (by decide) (by decide) (by decide)
theorem Ct.ci {a : Nat} (h : Ct p p') : Ci a p p' := ⟨h.1.mono (by decide) (by decide) (fun _ z => z), fun b hb _ f h1 h2 => h.1.2.2.1 f (by
  unfold CtF
  simp only [List.mem_cons, List.not_mem_nil, or_false]
  omega) b hb⟩
theorem Rt.rfl : Rt r r := ⟨Ch.rfl, by trivial, by trivial⟩
theorem Rt.trans (h : Rt r r') (k : Rt r' r'') : Rt r r'' := ⟨Ch.trans h.1 k.1, k.2.1.trans h.2.1, k.2.2.trans h.2.2⟩
theorem Rt.sI {f a : Nat} {x : Int32} (h : Rt r r') (hf : f ∈ RtF) : Rt r (sI r' f a x) := ⟨h.1.sI hf, h.2.1, h.2.2⟩
theorem Rt.wr {k q : Nat} (h : Rt r r') : Rt r (wrR k q r') := ⟨wrR_Ch h.1 (by decide) (by decide), by rw [wrR_x.1]; exact h.2.1, by rw [wrR_x.2.1]; exact h.2.2⟩
end Ct
section Tk
variable {N : Nat} {kd pl : Nat → Nat} {p r : Mem} {t : Nat}
theorem Toks.rt {r' : Mem} (h : Toks p r N kd pl) (x : Rt r r') (hp : 82 ≤ mC r) : Toks p r' N kd pl :=
  h.keep rfl rfl rfl (x.1.2.2.2 3 (by decide) (fun z => z) (by omega)).1 (x.1.2.2.2 4 (by decide) (fun z => z) (by omega)).1 (x.1.2.2.2 5 (by decide) (fun z => z) (by omega)).1 (x.1.2.2.2 6 (by decide) (fun z => z) (by omega)).2.1
theorem Ps.step {p' r' : Mem} {t' : Nat} (h : Ps N kd pl p r t) (c : Ct p p') (x : Rt r r') (h1 : t' < N) (h2 : mI p' 779 22 = nj t') (h3 : mI r' 1547 0 = nj t') (h4 : mI r' 1549 0 = 0) : Ps N kd pl p' r' t' := by
  obtain ⟨a1, a2, a3, a4, a5, a6, a7, a8, a9, a10, a11, a12⟩ := h
  have T1 := a9.1
  exact ⟨(a1.ch c.1 T1 (by decide)).rt x a10, h1, h2, h3, h4, by rw [x.1.i (by decide) (by omega)]; exact a6, by rw [c.1.i (by decide) (by omega)]; exact a7, by rw [c.1.i (by decide) (by omega)]; exact a8, a9.Ch c.1, by rw [x.2.1]; exact a10, by rw [c.1.t (by omega)]; exact a11, by rw [c.1.n (by omega)]; exact a12⟩
/-- a failed take, the reference likewise -/
theorem bad_of {nm c : Nat} {p1 p' r' : Mem} (h : Ps N kd pl p r t) (hc : Ct p p1) (f : FlP p1 p' c t) (hr : Rf r' c (pl t)) (x : Rt r r') (e1 : mI r' 1581 = mI r 1581) (e2 : mI r' 1580 = mI r 1580) (n1 : ∀ k, k < min nm 60 → aL p1 23 k = aL p 23 k) (n2 : aL r' 35 = aL r 35) : Bad nm p r p' r' := by
  have T1 := h.2.2.2.2.2.2.2.2.1.1
  refine ⟨FlP.fld (p0 := p) (r := r) f (h.1.ch hc.1 T1 (by decide)) h.2.1 hr, fun a => Cz.trans hc.cz f.2.2.1.cz, by rw [f.2.2.1.2.1, hc.2.1], by rw [f.2.2.1.2.2, hc.2.2], x, e1, e2, fun k hk => by rw [f.2.2.1.1.al (by decide) (fun z => z) (by rw [hc.2.1]; omega)]; exact n1 k hk, n2⟩
theorem fail_t {c q : Nat} {r' : Mem} (h : R_fail (nj c) r = some ((), r')) : Rt r r' := by
  unfold R_fail at h
  split at h
  · rw [vb_e] at h
    have h' := gdk h
    rw [vb_e] at h'
    rw [← some_snd h']
    exact (Rt.rfl.sI (by decide)).sI (by decide)
  · rw [← some_snd h]
    exact Rt.rfl
theorem next_t {r' : Mem} (h : R_next r = some ((), r')) : Rt r r' := by
  unfold R_next at h
  split at h
  · obtain ⟨v, m, a1, a2⟩ := bnk h
    rw [← some_snd a2]
    exact fail_t (c := 2) (q := 0) a1
  · rw [vb_e] at h
    rw [← some_snd h]
    exact Rt.rfl.sI (by decide)
theorem must_t {x : Int32} {r' : Mem} (h : R_must x r = some ((), r')) : Rt r r' := by
  unfold R_must at h
  obtain ⟨v, m, a1, a2⟩ := bnk h
  have e := is_o a1
  subst e
  split at a2
  · obtain ⟨v', m', b1, b2⟩ := bnk a2
    rw [← some_snd b2]
    exact fail_t (c := 1) (q := 0) b1
  · obtain ⟨v', m', b1, b2⟩ := bnk a2
    rw [← some_snd b2]
    exact next_t b1
theorem wrong_t {x y : Int32} {r' : Mem} (h : R_wrong x y r = some ((), r')) : Rt r r' := by
  unfold R_wrong R_wrong_46 at h
  have h' := gdk h
  rw [vb_e] at h'
  have fin : ∀ z : Int32, (vb (sI r 1551 0 x) fun m2 => vb (sI m2 1552 0 z) fun m4 => some ((), m4)) = some ((), r') → Rt r r' := fun z q => by
    rw [vb_e, vb_e] at q
    rw [← some_snd q]
    exact (Rt.rfl.sI (by decide)).sI (by decide)
  split at h'
  · rw [← some_snd h']; exact Rt.rfl
  · split at h'
    · exact fin _ h'
    · split at h'
      · rw [← some_snd h']; exact Rt.rfl
      · split at h'
        · split at h'
          · exact fin _ h'
          · rw [← some_snd h']; exact Rt.rfl
        · exact fin _ h'
theorem number_t {lo hi y : Int32} {r' : Mem} (h : R_number lo hi r = some (y, r')) : Rt r r' := by
  have e26 : ∀ s0 x3 : Int32, R_number_26 lo hi x3 s0 r = some (y, r') → Rt r r' := by
    intro s0 x3 q
    unfold R_number_26 R_number_52 at q
    obtain ⟨v, m, a1, a2⟩ := bnk q
    have e1 := must_t a1
    have w : (bn (R_wrong 5 x3 m) fun _ m2 => some (s0, m2)) = some (y, r') → Rt r r' := fun q => by
      obtain ⟨v', m', b1, b2⟩ := bnk q
      rw [← some_snd' b2]
      exact Rt.trans e1 (wrong_t b1)
    split at a2
    · split at a2
      · exact w a2
      · split at a2
        · rw [← some_snd' a2]; exact e1
        · exact w a2
    · rw [← some_snd' a2]; exact e1
  unfold R_number at h
  rw [vb_e] at h
  obtain ⟨v, m, a1, a2⟩ := bnk h
  have e := is_o a1
  subst e
  split at a2
  · exact e26 _ _ a2
  · exact e26 _ _ (gdk a2)
/-- a word or sign that must come -/
theorem kind_j (h : Ps N kd pl p r t) (k : Nat) (hk : k < 60) {x : Int32} (hx : x = nj (kM k)) (h2 : 2 ≤ k) :
    (kd t = k ∧ t < 500 ∧ ∃ p' r', P_Parser_takeKind (nj k) p = some (1, p') ∧ R_must x r = some ((), r') ∧ p' = sI p 779 22 (nj (t + 1)) ∧ r' = sI r 1547 0 (nj (t + 1)) ∧ Ps N kd pl p' r' (t + 1)) ∨
    (∃ p' r', P_Parser_takeKind (nj k) p = some (0, p') ∧ R_must x r = some ((), r') ∧ (∀ nm, Bad nm p r p' r')) := by
  have hh := h
  obtain ⟨a1, a2, a3, a4, a5, a6, a7, a8, a9, a10, a11, a12⟩ := h
  have hN := a1.2.1
  obtain ⟨k1, k2, k3, k4, k5, k6, k7, k8⟩ := a1.2.2.2.2 t a2
  clear k7 k8
  unfold P_Parser_takeKind R_must
  have ek : (nj (kd t) = nj k) = (kd t = k) := nj_inj (by omega) (by omega)
  rw [a3, inb_nj (by omega), gd_t (decide_eq_true (by omega)), ix_nj (by omega), k3, is_r a5 a4 (by omega) k4 k1 k hk hx, bn_s]
  obtain ⟨t1, t2⟩ := take_e a3 (show t ≤ 500 by omega)
  obtain ⟨n1, n2⟩ := next_r a5 a4 (by omega) k6
  by_cases z : kd t = k
  · rw [if_pos (ek.mpr z), decide_eq_true z, tI_t, if_neg (show ¬ (1 : Int32) = 0 by decide)]
    by_cases w : t < 500
    · left
      have hnx := a1.nxt a2 (by omega) w
      rw [t1 w, bn_s, gz_t (Or.inr rfl), n1 w, bn_s]
      exact ⟨z, w, _, _, rfl, rfl, rfl, rfl, hh.step (Ct.rfl.sI (by decide)) (Rt.rfl.sI (by decide)) hnx (by rw [k_mI_sI_e, up1_ap, if_pos rfl]) (by rw [k_mI_sI_e, up1_ap, if_pos rfl]) (by rw [k_mI_sI (by omega)]; exact a5)⟩
    · right
      obtain ⟨p', b1, b2⟩ := t2 (by omega)
      obtain ⟨r', d1, d2, d3⟩ := n2 (by omega)
      rw [b1, bn_s, gz_t (Or.inl rfl), d1, bn_s]
      exact ⟨p', r', rfl, rfl, fun nm => bad_of hh Ct.rfl b2 d2 (next_t d1) (next_o d1 (by omega) (by omega) (by omega)) (next_o d1 (by omega) (by omega) (by omega)) (fun _ _ => rfl) (by rw [(d3 0).1.al (by decide) (fun z => z) (by omega)])⟩
  · right
    obtain ⟨p', b1, b2⟩ := fail_e 1 a3 (show t ≤ 500 by omega)
    obtain ⟨r', d1, d2, d3⟩ := fail_r (c := 1) a5 a4 (by omega) k6 (Or.inl rfl)
    have b1' : P_Parser_fail 1 p = _ := b1
    have d1' : R_fail 1 r = _ := d1
    rw [if_neg (fun w => z (ek.mp w)), b1', bn_s, gz_t (Or.inl rfl), decide_eq_false z, tI_f, if_pos rfl, d1', bn_s]
    exact ⟨p', r', rfl, rfl, fun nm => bad_of hh Ct.rfl b2 d2 (fail_t (q := 0) d1) (fail_o d1 (by omega) (by omega)) (fail_o d1 (by omega) (by omega)) (fun _ _ => rfl) (by rw [(d3 0).1.al (by decide) (fun z => z) (by omega)])⟩
/-- an INT -/
theorem int_j (h : Ps N kd pl p r t) (hl : mI r 1551 0 ≠ 0 → ∃ q', q' < pl t ∧ mI r 1552 0 = nj q') (lo hi : Nat) (hlo : lo < 10000) (hhi : hi < 10000) :
    (∃ v p' r', v ≤ 9999 ∧ t < 500 ∧ P_Parser_takeInt (nj lo) (nj hi) p = some (1, p') ∧ R_number (nj lo) (nj hi) r = some (nj v, r') ∧ p' = sI (if lo ≤ v ∧ v ≤ hi then sI p 780 22 (nj v) else ntP 5 (pl t) (sI p 780 22 (nj v))) 779 22 (nj (t + 1)) ∧ r' = (if lo ≤ v ∧ v ≤ hi then sI r 1547 0 (nj (t + 1)) else wrR 5 (pl t) (sI r 1547 0 (nj (t + 1)))) ∧ Ct p p' ∧ Rt r r' ∧ Ps N kd pl p' r' (t + 1) ∧ mI p' 780 22 = nj v ∧ pl t ≤ 2000) ∨
    (∃ v p' r', P_Parser_takeInt (nj lo) (nj hi) p = some (0, p') ∧ R_number (nj lo) (nj hi) r = some (v, r') ∧ (∀ nm, Bad nm p r p' r') ∧ (v = 0 ∨ ∃ w, w ≤ 9999 ∧ v = nj w)) := by
  have hh := h
  obtain ⟨a1, a2, a3, a4, a5, a6, a7, a8, a9, a10, a11, a12⟩ := h
  have hN := a1.2.1
  obtain ⟨k1, k2, k3, k4, k5, k6, k7, k8⟩ := a1.2.2.2.2 t a2
  clear k7 k8
  obtain ⟨nA, nB⟩ := number_r a1 a2 a4 a5 hl lo hi hlo hhi
  unfold P_Parser_takeInt
  have ek : (nj (kd t) = 3) = (kd t = 3) := nj_eq_l (by omega) (by omega)
  rw [a3, inb_nj (by omega), gd_t (decide_eq_true (by omega)), gd_t (decide_eq_true (by omega)), ix_nj (by omega), k3]
  by_cases z : kd t = 3
  · obtain ⟨v, v1, v2, v3, v4⟩ := nA z
    rw [if_pos (ek.mpr z), vb_e, v2, k_mI_sI_e, up1_ap, if_pos rfl]
    have late : P_Parser_noteLate 5 (sI p 780 22 (nj v)) = some ((), ntP 5 (pl t) (sI p 780 22 (nj v))) := late_e 5 (by rw [k_mI_sI (by omega)]; exact a3) (by omega) (by rw [k_aI_sI]; exact k5)
    have e60 : (if nj v < nj lo then P_Parser_takeInt_55 (sI p 780 22 (nj v)) else if nj v ≤ nj hi then P_Parser_takeInt_60 (sI p 780 22 (nj v)) else P_Parser_takeInt_55 (sI p 780 22 (nj v))) = P_Parser_takeInt_60 (if lo ≤ v ∧ v ≤ hi then sI p 780 22 (nj v) else ntP 5 (pl t) (sI p 780 22 (nj v))) := by
      unfold P_Parser_takeInt_55
      rw [late, bn_s]
      by_cases y : v < lo
      · rw [if_pos (by rw [nj_lt (by omega) (by omega)]; exact y), if_neg (by omega)]
      · rw [if_neg (by rw [nj_lt (by omega) (by omega)]; exact y)]
        by_cases y2 : v ≤ hi
        · rw [if_pos (by rw [nj_le (by omega) (by omega)]; exact y2), if_pos (by omega)]
        · rw [if_neg (by rw [nj_le (by omega) (by omega)]; exact y2), if_neg (by omega)]
    rw [e60]
    have hCt : Ct p (if lo ≤ v ∧ v ≤ hi then sI p 780 22 (nj v) else ntP 5 (pl t) (sI p 780 22 (nj v))) := by
      split
      · exact Ct.rfl.sI (by decide)
      · exact (Ct.rfl.sI (by decide)).nt
    have h79 : mI (if lo ≤ v ∧ v ≤ hi then sI p 780 22 (nj v) else ntP 5 (pl t) (sI p 780 22 (nj v))) 779 22 = nj t := by
      split
      · rw [k_mI_sI (by omega)]; exact a3
      · rw [ntP_o (by omega) (by omega), k_mI_sI (by omega)]; exact a3
    have h80 : mI (if lo ≤ v ∧ v ≤ hi then sI p 780 22 (nj v) else ntP 5 (pl t) (sI p 780 22 (nj v))) 780 22 = nj v := by
      split
      · rw [k_mI_sI_e, up1_ap, if_pos rfl]
      · rw [ntP_o (by omega) (by omega), k_mI_sI_e, up1_ap, if_pos rfl]
    unfold P_Parser_takeInt_60
    obtain ⟨t1, t2⟩ := take_e h79 (show t ≤ 500 by omega)
    by_cases w : t < 500
    · left
      have hnx := a1.nxt a2 (by omega) w
      rw [t1 w, bn_s, gz_t (Or.inr rfl)]
      have hRt : Rt r (if lo ≤ v ∧ v ≤ hi then sI r 1547 0 (nj (t + 1)) else wrR 5 (pl t) (sI r 1547 0 (nj (t + 1)))) := by
        split
        · exact Rt.rfl.sI (by decide)
        · exact (Rt.rfl.sI (by decide)).wr
      refine ⟨v, _, _, v1, w, rfl, v3 w, rfl, rfl, hCt.sI (by decide), hRt, hh.step (hCt.sI (by decide)) hRt hnx (by rw [k_mI_sI_e, up1_ap, if_pos rfl]) ?_ ?_, by rw [k_mI_sI (by omega)]; exact h80, k2⟩
      · split
        · rw [k_mI_sI_e, up1_ap, if_pos rfl]
        · rw [wrR_o (by omega) (by omega), k_mI_sI_e, up1_ap, if_pos rfl]
      · split
        · rw [k_mI_sI (by omega)]; exact a5
        · rw [wrR_o (by omega) (by omega), k_mI_sI (by omega)]; exact a5
    · right
      obtain ⟨p', b1, b2⟩ := t2 (by omega)
      obtain ⟨r', d1, d2, d3⟩ := v4 (by omega)
      rw [b1, bn_s, gz_t (Or.inl rfl)]
      exact ⟨_, p', r', rfl, d1, fun nm => bad_of hh hCt b2 d2 (number_t d1) (number_o d1 (by omega) (by omega) (by omega) (by omega) (by omega)) (number_o d1 (by omega) (by omega) (by omega) (by omega) (by omega)) (fun _ _ => by
        split
        · rfl
        · rw [ntP_x.2.2.2.1, k_aL_sI]) (by rw [(d3 0).1.al (by decide) (fun z => z) (by omega)]), Or.inr ⟨v, v1, rfl⟩⟩
  · right
    obtain ⟨r', d1, d2, d3⟩ := nB z
    obtain ⟨p', b1, b2⟩ := fail_e 1 a3 (show t ≤ 500 by omega)
    have b1' : P_Parser_fail 1 p = _ := b1
    rw [if_neg (fun w => z (ek.mp w)), b1', bn_s, gz_t (Or.inl rfl)]
    exact ⟨_, p', r', rfl, d1, fun nm => bad_of hh Ct.rfl b2 d2 (number_t d1) (number_o d1 (by omega) (by omega) (by omega) (by omega) (by omega)) (number_o d1 (by omega) (by omega) (by omega) (by omega) (by omega)) (fun _ _ => rfl) (by rw [(d3 0).1.al (by decide) (fun z => z) (by omega)]), Or.inl rfl⟩
end Tk
/-- the first of d from i on that is y -/
def fsA (f : Nat → Int64) (y : Int64) : Nat → Nat → Nat
  | 0, i => i
  | d + 1, i => if f i = y then i else fsA f y d (i + 1)
theorem fsA_b {f : Nat → Int64} {y : Int64} : ∀ d i, i ≤ fsA f y d i ∧ fsA f y d i ≤ i + d ∧ (fsA f y d i < i + d → f (fsA f y d i) = y) ∧ ∀ k, i ≤ k → k < fsA f y d i → f k ≠ y
  | 0, i => ⟨Nat.le_refl _, Nat.le_refl _, (fun h => absurd h (by show ¬ i < i; omega)), fun k h1 h2 => absurd h2 (by show ¬ k < i; omega)⟩
  | d + 1, i => by
    obtain ⟨h1, h2, h3, h4⟩ := fsA_b (f := f) (y := y) d (i + 1)
    have e : fsA f y (d + 1) i = if f i = y then i else fsA f y d (i + 1) := rfl
    rw [e]
    by_cases z : f i = y
    · rw [if_pos z]
      exact ⟨Nat.le_refl _, by omega, fun _ => z, fun k q1 q2 => by omega⟩
    · rw [if_neg z]
      refine ⟨by omega, by omega, fun q => h3 (by omega), fun k q1 q2 => ?_⟩
      by_cases w : k = i
      · rw [w]; exact z
      · exact h4 k (by omega) q2
theorem numberOf_e {m : Mem} {y : Int64} {n : Nat} (hn : n ≤ 60) (hm : mI m 771 22 = nj n) : ∀ (d i fu : Nat), i + d = n → d < fu → P_Parser_numberOf_2 fu y (nj i) m = some (if fsA (aL m 23) y d i < n then nj (fsA (aL m 23) y d i) else -1, m)
  | 0, i, fu + 1, h, _ => by
    rw [P_Parser_numberOf_2.eq_2, hm, if_pos (by rw [nj_le (by omega) (by omega)]; omega), if_neg (by show ¬ i < n; omega)]
  | d + 1, i, fu + 1, h, h2 => by
    rw [P_Parser_numberOf_2.eq_2, hm, if_neg (by rw [nj_le (by omega) (by omega)]; omega), inb_nj (by omega), gd_t (decide_eq_true (by omega)), ix_nj (by omega)]
    have e : fsA (aL m 23) y (d + 1) i = if aL m 23 i = y then i else fsA (aL m 23) y d (i + 1) := rfl
    simp only [cmp0]
    rw [e]
    by_cases z : aL m 23 i = y
    · rw [if_pos z, if_pos z, if_pos (by omega)]
    · rw [if_neg z, if_neg z, vb_e, nj_add_l]
      exact numberOf_e hn hm d (i + 1) fu (by omega) (by omega)
theorem R_name_21_e {m : Mem} {n t : Nat} (hn : n < 600) (ht : t ≤ 500) (hm : mI m 1585 0 = nj n) : ∀ (d i fu : Nat), i + d = n → d < fu → R_name_21 fu (nj t) (nj i) m = if fsA (aL m 35) (aL m 6 t) d i < n then some (nj (fsA (aL m 35) (aL m 6 t) d i), m) else R_name_53 (nj t) m
  | 0, i, fu + 1, h, _ => by
    rw [R_name_21.eq_2, hm, if_pos (by rw [nj_le (by omega) (by omega)]; omega), if_neg (by show ¬ i < n; omega)]
  | d + 1, i, fu + 1, h, h2 => by
    rw [R_name_21.eq_2, hm, if_neg (by rw [nj_le (by omega) (by omega)]; omega), inb_nj (by omega), gd_t (decide_eq_true (by omega)), inb_nj (by omega), gd_t (decide_eq_true (by omega)), ix_nj (by omega), ix_nj (by omega)]
    have e : fsA (aL m 35) (aL m 6 t) (d + 1) i = if aL m 35 i = aL m 6 t then i else fsA (aL m 35) (aL m 6 t) d (i + 1) := rfl
    simp only [cmp0]
    rw [e]
    by_cases z : aL m 35 i = aL m 6 t
    · rw [if_pos z, if_pos z, if_pos (by omega)]
    · rw [if_neg z, if_neg z, vb_e, nj_add_l]
      exact R_name_21_e hn ht hm d (i + 1) fu (by omega) (by omega)
/-- NAMES of both sides, those that are new in this text among them -/
def Nam (pl : Nat → Nat) (t : Nat) (p r : Mem) (nm : Nat) : Prop := nm ≤ 60 + t ∧ mI r 1585 0 = nj nm ∧ mI p 771 22 = nj (min nm 60) ∧ (∀ k, k < min nm 60 → Nm2 (aL p 23 k) (aL r 35 k)) ∧ (nm ≤ 60 → mI r 1587 0 = -1 ∧ mI p 778 22 = -1) ∧ (60 < nm → ∃ k, k < t ∧ mI r 1587 0 = nj k ∧ mI p 778 22 = nj (pl k))
theorem Nam.same {pl : Nat → Nat} {t t' nm : Nat} {p r p' r' : Mem} (h : Nam pl t p r nm) (ht : t ≤ t') (e1 : mI r' 1585 0 = mI r 1585 0) (e2 : mI p' 771 22 = mI p 771 22) (e3 : aL p' 23 = aL p 23) (e4 : aL r' 35 = aL r 35) (e5 : mI r' 1587 0 = mI r 1587 0) (e6 : mI p' 778 22 = mI p 778 22) : Nam pl t' p' r' nm := by
  unfold Nam
  rw [e1, e2, e3, e4, e5, e6]
  obtain ⟨h1, h2, h3, h4, h5, h6⟩ := h
  exact ⟨by omega, h2, h3, h4, h5, fun z => by obtain ⟨k, q1, q2⟩ := h6 z; exact ⟨k, by omega, q2⟩⟩
