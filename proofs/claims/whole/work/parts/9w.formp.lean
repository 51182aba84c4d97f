/-! Layer C: the class's formula, as lists -/
def Sq (f : Nat → Int32) (S : List Int32) : Prop := ∀ j v, S[j]? = some v → f j = v
theorem Sq.snoc {f : Nat → Int32} {S : List Int32} {v : Int32} (h : Sq f S) : Sq (up1 f S.length v) (S ++ [v]) := by
  intro j w hj
  rw [up1_ap]
  by_cases z : j = S.length
  · rw [if_pos z]
    rw [z, List.getElem?_append_right (Nat.le_refl _), Nat.sub_self] at hj
    exact Option.some.inj hj
  · rw [if_neg z]
    by_cases y : j < S.length
    · rw [List.getElem?_append_left y] at hj
      exact h j w hj
    · have := List.getElem?_eq_none (l := S ++ [v]) (i := j) (by simp; omega)
      rw [this] at hj
      cases hj
def FmF : List Nat := [128, 129, 130, 131, 132, 134, 136, 779]
def FmG : List Nat := [773, 774, 128, 129, 130, 131, 132, 134, 136, 779]
/-- what a formula in the making may change -/
def Cf (p p' : Mem) : Prop := Ch FmF [2, 3] nil p p' ∧ mC p' = mC p ∧ mS p' = mS p
theorem Cf.rfl {p : Mem} : Cf p p := ⟨Ch.rfl, by trivial, by trivial⟩
theorem Cf.trans {p q s : Mem} (h : Cf p q) (k : Cf q s) : Cf p s := ⟨Ch.trans h.1 k.1, k.2.1.trans h.2.1, k.2.2.trans h.2.2⟩
theorem Cf.sI {p q : Mem} {f a : Nat} {x : Int32} (h : Cf p q) (hf : f ∈ FmF) : Cf p (sI q f a x) := ⟨h.1.sI hf, h.2.1, h.2.2⟩
theorem Cf.wI {p q : Mem} {a j : Nat} {x : Int32} (h : Cf p q) (ha : a ∈ [2, 3]) : Cf p (wI q a j x) := ⟨h.1.wI (Or.inl ha), h.2.1, h.2.2⟩
/-- and where it fails -/
def Cg (p p' : Mem) : Prop := Ch FmG [2, 3] nil p p' ∧ mC p' = mC p ∧ mS p' = mS p
theorem Cg.rfl {p : Mem} : Cg p p := ⟨Ch.rfl, by trivial, by trivial⟩
theorem Cg.sI {p q : Mem} {f a : Nat} {x : Int32} (h : Cg p q) (hf : f ∈ FmG) : Cg p (sI q f a x) := ⟨h.1.sI hf, h.2.1, h.2.2⟩
theorem Cf.cg {p q s : Mem} (h : Cf p q) (k : Cg q s) : Cg p s := ⟨Ch.trans (h.1.mono (fun _ z => List.mem_cons_of_mem _ (List.mem_cons_of_mem _ z)) (fun _ z => z) (fun _ z => z)) k.1, k.2.1.trans h.2.1, k.2.2.trans h.2.2⟩
/-- c: COND; st: state; br: brackets; cm: compared; S: steps; W: signs that wait, the last first -/
def Fs (p : Mem) (c : Bool) (st br : Nat) (cm : Bool) (S : List Int32) (W : List Nat) : Prop :=
  mI p 129 1 = tI c ∧ mI p 130 1 = nj st ∧ mI p 131 1 = nj br ∧ mI p 132 1 = tI cm ∧ mI p 128 1 = 0 ∧ mI p 134 1 = nj S.length ∧ Sq (aI p 2) S ∧ mI p 136 1 = nj W.length ∧ Stk (aI p 3) (W.map nj)
section Fp
variable {p : Mem} {c cm : Bool} {st br : Nat} {S : List Int32} {W : List Nat}
theorem addStep_e (h : Fs p c st br cm S W) (hl : S.length < 500) (x1 x2 : Int32) : ∃ p', P_Formula_addStep x1 x2 p = some ((), p') ∧ Fs p' c st br cm (S ++ [x1 * 10000 + x2]) W ∧ Cf p p' ∧ mI p' 779 = mI p 779 := by
  obtain ⟨h1, h2, h3, h4, h5, h6, h7, h8, h9⟩ := h
  unfold P_Formula_addStep
  rw [h6, if_neg (by rw [nj_l_le (by omega) (by omega)]; omega), inb_nj (by omega), gd_t (decide_eq_true hl), vb_e, ix_nj (by omega), vb_e, k_mI_wI, h6, nj_add_l]
  refine ⟨_, rfl, ⟨?_, ?_, ?_, ?_, ?_, ?_, ?_, ?_, ?_⟩, (Cf.rfl.wI (by decide)).sI (by decide), by rw [k_mI_sI (by omega), k_mI_wI]⟩
  · rw [k_mI_sI (by omega), k_mI_wI]; exact h1
  · rw [k_mI_sI (by omega), k_mI_wI]; exact h2
  · rw [k_mI_sI (by omega), k_mI_wI]; exact h3
  · rw [k_mI_sI (by omega), k_mI_wI]; exact h4
  · rw [k_mI_sI (by omega), k_mI_wI]; exact h5
  · rw [k_mI_sI_e, up1_ap, if_pos rfl, List.length_append]
    rfl
  · rw [k_aI_sI, k_aI_wI_e]; exact h7.snoc
  · rw [k_mI_sI (by omega), k_mI_wI]; exact h8
  · rw [k_aI_sI, k_aI_wI (by omega)]; exact h9
theorem putOff_e (h : Fs p c st br cm S W) (hl : W.length < 500) (k rk : Nat) : ∃ p', P_Formula_putOff (nj k) (nj rk) p = some ((), p') ∧ Fs p' c st br cm S ((rk * 100 + k) :: W) ∧ Cf p p' ∧ mI p' 779 = mI p 779 := by
  obtain ⟨h1, h2, h3, h4, h5, h6, h7, h8, h9⟩ := h
  unfold P_Formula_putOff
  rw [h8, if_neg (by rw [nj_l_le (by omega) (by omega)]; omega), inb_nj (by omega), gd_t (decide_eq_true hl), vb_e, ix_nj (by omega), vb_e, k_mI_wI, h8, nj_add_l]
  refine ⟨_, rfl, ⟨?_, ?_, ?_, ?_, ?_, ?_, ?_, ?_, ?_⟩, (Cf.rfl.wI (by decide)).sI (by decide), by rw [k_mI_sI (by omega), k_mI_wI]⟩
  · rw [k_mI_sI (by omega), k_mI_wI]; exact h1
  · rw [k_mI_sI (by omega), k_mI_wI]; exact h2
  · rw [k_mI_sI (by omega), k_mI_wI]; exact h3
  · rw [k_mI_sI (by omega), k_mI_wI]; exact h4
  · rw [k_mI_sI (by omega), k_mI_wI]; exact h5
  · rw [k_mI_sI (by omega), k_mI_wI]; exact h6
  · rw [k_aI_sI, k_aI_wI (by omega)]; exact h7
  · rw [k_mI_sI_e, up1_ap, if_pos rfl]
    rfl
  · rw [k_aI_sI, k_aI_wI_e]
    refine ⟨?_, Stk.up h9 (by simp)⟩
    rw [up1_ap, if_pos (by simp), show (100 : Int32) = nj 100 from rfl, nj_mul, nj_add]
end Fp
/-- what settles from rank lim on, and what waits on -/
def stO (lim : Nat) : List Nat → List Nat × List Nat
  | [] => ([], [])
  | w :: W => if w < lim * 100 then ([], w :: W) else (w :: (stO lim W).1, (stO lim W).2)
theorem stO_len (lim : Nat) : ∀ W, (stO lim W).1.length + (stO lim W).2.length = W.length
  | [] => rfl
  | w :: W => by
    have ih := stO_len lim W
    unfold stO
    split
    · simp
    · simp; omega
theorem rem_e : ∀ w, w < 1000 → nj w - nj w / 100 * 100 = nj (w % 100) := by decide +kernel
def stE (l : List Nat) : List Int32 := l.map fun w => nj (w % 100 * 10000)
theorem settle_e {lim : Nat} (hlim : lim < 10) {c cm : Bool} {st br : Nat} : ∀ (W : List Nat) (S : List Int32) (p : Mem) (fu : Nat), Fs p c st br cm S W → S.length + W.length ≤ 500 → W.length < fu → (∀ w, w ∈ W → w < 1000) →
    ∃ p', P_Formula_settle_0 fu (nj lim) p = some ((), p') ∧ Fs p' c st br cm (S ++ stE (stO lim W).1) (stO lim W).2 ∧ Cf p p' ∧ mI p' 779 = mI p 779
  | [], S, p, fu + 1, h, _, _, _ => by
    rw [P_Formula_settle_0.eq_2, h.2.2.2.2.2.2.2.1, if_pos (by decide)]
    refine ⟨p, rfl, ?_, Cf.rfl, rfl⟩
    have e : S ++ stE (stO lim []).1 = S := List.append_nil S
    rw [e]
    exact h
  | w :: W, S, p, fu + 1, h, h2, h3, h4 => by
    have hw := h4 w (by simp)
    have h' := h
    obtain ⟨g1, g2, g3, g4, g5, g6, g7, g8, g9⟩ := h'
    have g8' : mI p 136 1 = nj (W.length + 1) := g8
    simp only [List.length_cons] at h2 h3
    have top : aI p 3 W.length = nj w := by
      have := g9.1
      simp only [List.length_map] at this
      exact this
    rw [P_Formula_settle_0.eq_2, g8', if_neg (by rw [nj_le_l (by omega) (by omega)]; omega), nj_sub_l (by omega), show W.length + 1 - OfNat.ofNat 1 = W.length from rfl, inb_nj (by omega), gd_t (decide_eq_true (by omega)), ix_nj (by omega), top, show (100 : Int32) = nj 100 from rfl, nj_mul]
    have e : stO lim (w :: W) = if w < lim * 100 then ([], w :: W) else (w :: (stO lim W).1, (stO lim W).2) := rfl
    by_cases z : w < lim * 100
    · rw [if_pos (by rw [nj_lt (by omega) (by omega)]; exact z), e, if_pos z]
      refine ⟨p, rfl, ?_, Cf.rfl, rfl⟩
      have e : S ++ stE [] = S := List.append_nil S
      rw [e]
      exact h
    · rw [if_neg (by rw [nj_lt (by omega) (by omega)]; exact z), e, if_neg z, vb_e, k_mI_sI_e, up1_ap, if_pos rfl, inb_nj (by omega), gd_t (decide_eq_true (by omega)), k_aI_sI, ix_nj (by omega), top, show nj w - nj w / nj 100 * nj 100 = nj (w % 100) from rem_e w hw]
      have f1 : Fs (sI p 136 1 (nj W.length)) c st br cm S W := ⟨by rw [k_mI_sI (by omega)]; exact g1, by rw [k_mI_sI (by omega)]; exact g2, by rw [k_mI_sI (by omega)]; exact g3, by rw [k_mI_sI (by omega)]; exact g4, by rw [k_mI_sI (by omega)]; exact g5, by rw [k_mI_sI (by omega)]; exact g6, by rw [k_aI_sI]; exact g7, by rw [k_mI_sI_e, up1_ap, if_pos rfl], by rw [k_aI_sI]; exact g9.2⟩
      obtain ⟨p1, a1, a2, a3, a4⟩ := addStep_e f1 (by omega) (nj (w % 100)) 0
      rw [a1, bn_s]
      obtain ⟨p2, b1, b2, b3, b4⟩ := settle_e hlim W _ p1 fu a2 (by simp; omega) (by omega) (fun v hv => h4 v (by simp [hv]))
      refine ⟨p2, b1, ?_, Cf.trans (Cf.trans (Cf.rfl.sI (by decide)) a3) b3, by rw [b4, a4, k_mI_sI (by omega)]⟩
      have es : S ++ [nj (w % 100) * 10000 + 0] ++ stE (stO lim W).1 = S ++ stE (w :: (stO lim W).1) := by
        have : nj (w % 100) * 10000 + 0 = nj (w % 100 * 10000) := by rw [Int32.add_zero, show (10000 : Int32) = nj 10000 from rfl, nj_mul]
        rw [this, List.append_assoc]
        rfl
      rw [es] at b2
      exact b2
section It
variable {p : Mem} {x1 : Option Nat} {x2 : Int32} {fu i t k : Nat}
/-- the class fails with c at token t -/
def FlP (p p' : Mem) (c t : Nat) : Prop := mI p' 773 22 = nj c ∧ mI p' 774 22 = aI p 19 t ∧ Cg p p' ∧ mI p' 779 = mI p 779
theorem fail_e {m : Mem} (c : Nat) (hm : mI m 779 22 = nj t) (ht : t ≤ 500) : ∃ m', P_Parser_fail (nj c) m = some (0, m') ∧ FlP m m' c t := by
  unfold P_Parser_fail
  rw [vb_e, k_mI_sI (by omega), hm, inb_nj (by omega), gd_t (decide_eq_true (by omega)), vb_e, k_aI_sI, ix_nj (by omega)]
  exact ⟨_, rfl, by rw [k_mI_sI (by omega), k_mI_sI_e, up1_ap, if_pos rfl], by rw [k_mI_sI_e, up1_ap, if_pos rfl], (Cg.rfl.sI (by decide)).sI (by decide), by rw [k_mI_sI (by omega), k_mI_sI (by omega)]⟩
theorem take_e {m : Mem} (hm : mI m 779 22 = nj t) (ht : t ≤ 500) : (t < 500 → P_Parser_take m = some (1, sI m 779 22 (nj (t + 1)))) ∧ (t = 500 → ∃ m', P_Parser_take m = some (0, m') ∧ FlP m m' 2 t) := by
  unfold P_Parser_take
  rw [hm]
  refine ⟨fun z => ?_, fun z => ?_⟩
  · rw [if_pos (by rw [nj_lt_l (by omega) (by omega)]; exact z), vb_e, nj_add_l]
  · rw [if_neg (by rw [nj_lt_l (by omega) (by omega)]; omega)]
    obtain ⟨m', a1, a2⟩ := fail_e 2 hm ht
    have a1' : P_Parser_fail 2 m = _ := a1
    rw [a1', bn_s, gz_t (Or.inl rfl)]
    exact ⟨m', rfl, a2⟩
/-- one turn of takeFormula, but at a ticket's INT -/
theorem tf_it {st : Nat} (h1 : mI p 779 22 = nj t) (ht : t ≤ 500) (h2 : aI p 18 t = nj k) (h3 : mI p 130 1 = nj st) (hst : st < 5) (hn : st ≠ 2) (hi : i ≤ 500) :
    P_Parser_takeFormula_10 (fu + 1) x1 x2 (nj i) p = bn (if st = 3 ∨ st = 4 then P_Formula_goOnWithSign (nj k) p else P_Formula_goOnWithUnit (nj k) (Int64.toInt32 (aL p 20 t)) p) fun r m => P_Parser_takeFormula_123 (fun z0 z1 z2 z3 => P_Parser_takeFormula_10 fu z0 z1 z2 z3) x1 x2 (nj i) r m := by
  have e2 : (nj st = 2) = (st = 2) := nj_eq_l (by omega) (by omega)
  have e3 : (nj st = 3) = (st = 3) := nj_eq_l (by omega) (by omega)
  have e4 : (nj st = 4) = (st = 4) := nj_eq_l (by omega) (by omega)
  have g : ∀ {β : Type} (z : Option β), gd (inb (nj t) 501) z = z := fun z => by rw [inb_nj (by omega), gd_t (decide_eq_true (by omega))]
  rw [P_Parser_takeFormula_10.eq_2, if_neg (by rw [nj_l_lt (by omega) (by omega)]; omega), h1, g, vb_e]
  unfold P_Formula_wantsTicket P_Parser_takeFormula_70 P_Formula_wantsSign
  rw [h3]
  simp only [e2, e3, e4, if_neg hn, bn_s, if_true]
  by_cases z3 : st = 3
  · simp only [h3, e3, e4, if_pos z3, bn_s, if_neg (show ¬ (1 : Int32) = 0 by decide), h1, g, ix_nj (show t < 2147483648 by omega), h2, if_pos (show st = 3 ∨ st = 4 from Or.inl z3)]
  · by_cases z4 : st = 4
    · simp only [h3, e3, e4, if_neg z3, if_pos z4, bn_s, if_neg (show ¬ (1 : Int32) = 0 by decide), h1, g, ix_nj (show t < 2147483648 by omega), h2, if_pos (show st = 3 ∨ st = 4 from Or.inr z4)]
    · simp only [h3, e3, e4, if_neg z3, if_neg z4, bn_s, if_true, h1, g, ix_nj (show t < 2147483648 by omega), h2, if_neg (show ¬ (st = 3 ∨ st = 4) by omega)]
/-- the turn goes on behind the token, or fails at the last one -/
def Adv (x1 : Option Nat) (x2 : Int32) (fu i t : Nat) (p : Mem) (y : Option (Int32 × Mem)) (Q : Mem → Prop) : Prop :=
  (t < 500 ∧ ∃ p', y = P_Parser_takeFormula_10 fu x1 x2 (nj (i + 1)) p' ∧ Q p' ∧ mI p' 779 22 = nj (t + 1) ∧ Cf p p') ∨ (t = 500 ∧ ∃ p', y = some (0, p') ∧ FlP p p' 2 t)
theorem Cf.a19 {p p' : Mem} (h : Cf p p') (hp : 51 ≤ mC p) : aI p' 19 = aI p 19 := (h.1.2.2.2 19 (by decide) (fun z => z) (by omega)).1
theorem FlP.of {p p1 p2 : Mem} {c t : Nat} (hp : 51 ≤ mC p) (h : Cf p p1) (e : mI p1 779 = mI p 779) (k : FlP p1 p2 c t) : FlP p p2 c t := ⟨k.1, by rw [k.2.1, h.a19 hp], Cf.cg h k.2.2.1, k.2.2.2.trans e⟩
theorem tf_adv {p m : Mem} {Q : Mem → Prop} (hp : 51 ≤ mC p) (ht : t ≤ 500) (hm : mI m 779 22 = nj t) (he : mI m 779 = mI p 779) (hc : Cf p m) (h8 : mI m 128 1 = 0) (hQ : ∀ x, Q (sI m 779 22 x)) :
    Adv x1 x2 fu i t p (P_Parser_takeFormula_123 (fun z0 z1 z2 z3 => P_Parser_takeFormula_10 fu z0 z1 z2 z3) x1 x2 (nj i) 0 m) Q := by
  unfold P_Parser_takeFormula_123
  rw [if_pos rfl, h8, if_pos rfl]
  obtain ⟨a1, a2⟩ := take_e hm ht
  by_cases z : t < 500
  · left
    rw [a1 z, bn_s, if_neg (by decide), vb_e, nj_add_l]
    exact ⟨z, _, rfl, hQ _, by rw [k_mI_sI_e, up1_ap, if_pos rfl], hc.sI (by decide)⟩
  · right
    obtain ⟨m', b1, b2⟩ := a2 (by omega)
    rw [b1, bn_s, if_pos rfl]
    exact ⟨by omega, m', rfl, b2.of hp hc he⟩
theorem tf_fail {m : Mem} (c : Nat) (hc : c = 1 ∨ c = 2) (hm : mI m 779 22 = nj t) (ht : t ≤ 500) : ∃ m', P_Parser_takeFormula_123 (fun z0 z1 z2 z3 => P_Parser_takeFormula_10 fu z0 z1 z2 z3) x1 x2 (nj i) (nj c) m = some (0, m') ∧ FlP m m' c t := by
  unfold P_Parser_takeFormula_123 P_Parser_takeFormula_130
  obtain ⟨m', a1, a2⟩ := fail_e c hm ht
  rw [if_neg (by rw [nj_eq_l (by omega) (by omega)]; omega), a1, bn_s, gz_t (Or.inl rfl)]
  exact ⟨m', rfl, a2⟩
end It
