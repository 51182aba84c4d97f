/-! Layer C: the class's formula, turn by turn -/
def rk (k : Nat) : Nat := if k = 6 ∨ k = 7 then 5 else if k = 8 ∨ k = 9 then 6 else if k = 56 then 1 else if k = 57 then 2 else 4
theorem rk_e : ∀ k, k < 60 → P_Formula_rankOf (nj k) = some (nj (rk k)) := by decide +kernel
theorem rk_b (k : Nat) : rk k < 10 := by
  unfold rk
  repeat' split
  all_goals omega
theorem wi69 : ∀ k, k < 60 → P_within (nj k) 6 9 = some (tI (decide (6 ≤ k ∧ k ≤ 9))) := by decide +kernel
theorem wi1013 : ∀ k, k < 60 → P_within (nj k) 10 13 = some (tI (decide (10 ≤ k ∧ k ≤ 13))) := by decide +kernel
theorem wi2031 : ∀ k, k < 60 → P_within (nj k) 20 31 = some (tI (decide (20 ≤ k ∧ k ≤ 31))) := by decide +kernel
section Tn
variable {p : Mem} {c cm : Bool} {st br k : Nat} {S : List Int32} {W : List Nat}
theorem Fs.s130 (h : Fs p c st br cm S W) (st' : Nat) : Fs (sI p 130 1 (nj st')) c st' br cm S W := by
  obtain ⟨g1, g2, g3, g4, g5, g6, g7, g8, g9⟩ := h
  exact ⟨by rw [k_mI_sI (by omega)]; exact g1, by rw [k_mI_sI_e, up1_ap, if_pos rfl], by rw [k_mI_sI (by omega)]; exact g3, by rw [k_mI_sI (by omega)]; exact g4, by rw [k_mI_sI (by omega)]; exact g5, by rw [k_mI_sI (by omega)]; exact g6, by rw [k_aI_sI]; exact g7, by rw [k_mI_sI (by omega)]; exact g8, by rw [k_aI_sI]; exact g9⟩
theorem Fs.s131 (h : Fs p c st br cm S W) (br' : Nat) : Fs (sI p 131 1 (nj br')) c st br' cm S W := by
  obtain ⟨g1, g2, g3, g4, g5, g6, g7, g8, g9⟩ := h
  exact ⟨by rw [k_mI_sI (by omega)]; exact g1, by rw [k_mI_sI (by omega)]; exact g2, by rw [k_mI_sI_e, up1_ap, if_pos rfl], by rw [k_mI_sI (by omega)]; exact g4, by rw [k_mI_sI (by omega)]; exact g5, by rw [k_mI_sI (by omega)]; exact g6, by rw [k_aI_sI]; exact g7, by rw [k_mI_sI (by omega)]; exact g8, by rw [k_aI_sI]; exact g9⟩
theorem Fs.s132 (h : Fs p c st br cm S W) (cm' : Bool) : Fs (sI p 132 1 (tI cm')) c st br cm' S W := by
  obtain ⟨g1, g2, g3, g4, g5, g6, g7, g8, g9⟩ := h
  exact ⟨by rw [k_mI_sI (by omega)]; exact g1, by rw [k_mI_sI (by omega)]; exact g2, by rw [k_mI_sI (by omega)]; exact g3, by rw [k_mI_sI_e, up1_ap, if_pos rfl], by rw [k_mI_sI (by omega)]; exact g5, by rw [k_mI_sI (by omega)]; exact g6, by rw [k_aI_sI]; exact g7, by rw [k_mI_sI (by omega)]; exact g8, by rw [k_aI_sI]; exact g9⟩
theorem Fs.s779 (h : Fs p c st br cm S W) (x : Int32) : Fs (sI p 779 22 x) c st br cm S W := by
  obtain ⟨g1, g2, g3, g4, g5, g6, g7, g8, g9⟩ := h
  exact ⟨by rw [k_mI_sI (by omega)]; exact g1, by rw [k_mI_sI (by omega)]; exact g2, by rw [k_mI_sI (by omega)]; exact g3, by rw [k_mI_sI (by omega)]; exact g4, by rw [k_mI_sI (by omega)]; exact g5, by rw [k_mI_sI (by omega)]; exact g6, by rw [k_aI_sI]; exact g7, by rw [k_mI_sI (by omega)]; exact g8, by rw [k_aI_sI]; exact g9⟩
theorem Fs.pop {w : Nat} (h : Fs p c st br cm S (w :: W)) (hl : W.length < 1000) : Fs (sI p 136 1 (jmax 0 (mI p 136 1 - 1))) c st br cm S W := by
  obtain ⟨g1, g2, g3, g4, g5, g6, g7, g8, g9⟩ := h
  have e : jmax 0 (mI p 136 1 - 1) = nj W.length := by
    have g8' : mI p 136 1 = nj (W.length + 1) := g8
    rw [g8', nj_sub_l (by omega), show W.length + 1 - OfNat.ofNat 1 = W.length from rfl]
    unfold jmax
    have := nj_0le (k := W.length) (by omega)
    grind
  rw [e]
  exact ⟨by rw [k_mI_sI (by omega)]; exact g1, by rw [k_mI_sI (by omega)]; exact g2, by rw [k_mI_sI (by omega)]; exact g3, by rw [k_mI_sI (by omega)]; exact g4, by rw [k_mI_sI (by omega)]; exact g5, by rw [k_mI_sI (by omega)]; exact g6, by rw [k_aI_sI]; exact g7, by rw [k_mI_sI_e, up1_ap, if_pos rfl], by rw [k_aI_sI]; exact g9.2⟩
theorem settle_p (h : Fs p c st br cm S W) (hl : S.length + W.length ≤ 500) (hW : ∀ w, w ∈ W → w < 1000) {lim : Nat} (hlim : lim < 10) :
    ∃ p', P_Formula_settle (nj lim) p = some ((), p') ∧ Fs p' c st br cm (S ++ stE (stO lim W).1) (stO lim W).2 ∧ Cf p p' ∧ mI p' 779 = mI p 779 :=
  settle_e hlim W S p FU h hl (by unfold FU; omega) hW
/-- settle, then put off -/
theorem sp_e (h : Fs p c st br cm S W) (hl : S.length + W.length < 500) (hW : ∀ w, w ∈ W → w < 1000) (hk : k < 60) :
    ∃ p', (bp (P_Formula_rankOf (nj k)) fun r1 => bn (P_Formula_settle r1 p) fun _ m3 => bp (P_Formula_rankOf (nj k)) fun r6 => bn (P_Formula_putOff (nj k) r6 m3) fun _ m8 => some ((), m8)) = some ((), p') ∧
      Fs p' c st br cm (S ++ stE (stO (rk k) W).1) ((rk k * 100 + k) :: (stO (rk k) W).2) ∧ Cf p p' ∧ mI p' 779 = mI p 779 := by
  obtain ⟨p1, a1, a2, a3, a4⟩ := settle_p h (by omega) hW (rk_b k)
  have hlen := stO_len (rk k) W
  obtain ⟨p2, b1, b2, b3, b4⟩ := putOff_e a2 (by omega) k (rk k)
  rw [rk_e k hk, bp_s, a1, bn_s, bp_s, b1, bn_s]
  exact ⟨p2, rfl, b2, Cf.trans a3 b3, b4.trans a4⟩
theorem sp_bn {β : Type} {K : Mem → Option β} (h : Fs p c st br cm S W) (hl : S.length + W.length < 500) (hW : ∀ w, w ∈ W → w < 1000) (hk : k < 60) :
    ∃ p', (bp (P_Formula_rankOf (nj k)) fun r1 => bn (P_Formula_settle r1 p) fun _ m3 => bp (P_Formula_rankOf (nj k)) fun r6 => bn (P_Formula_putOff (nj k) r6 m3) fun _ m8 => K m8) = K p' ∧
      Fs p' c st br cm (S ++ stE (stO (rk k) W).1) ((rk k * 100 + k) :: (stO (rk k) W).2) ∧ Cf p p' ∧ mI p' 779 = mI p 779 := by
  obtain ⟨p1, a1, a2, a3, a4⟩ := settle_p h (by omega) hW (rk_b k)
  have hlen := stO_len (rk k) W
  obtain ⟨p2, b1, b2, b3, b4⟩ := putOff_e a2 (by omega) k (rk k)
  rw [rk_e k hk, bp_s, a1, bn_s, bp_s, b1, bn_s]
  exact ⟨p2, rfl, b2, Cf.trans a3 b3, b4.trans a4⟩
theorem g_op (h : Fs p c 3 br cm S W) (hl : S.length + W.length < 500) (hW : ∀ w, w ∈ W → w < 1000) (hk : k < 60) (h69 : 6 ≤ k ∧ k ≤ 9) :
    ∃ p', P_Formula_goOnWithSign (nj k) p = some (0, p') ∧ Fs p' c 1 br cm (S ++ stE (stO (rk k) W).1) ((rk k * 100 + k) :: (stO (rk k) W).2) ∧ Cf p p' ∧ mI p' 779 = mI p 779 := by
  unfold P_Formula_goOnWithSign P_Formula_goOnWithSign_13
  obtain ⟨p', a1, a2, a3, a4⟩ := sp_bn (K := fun m11 => vb (sI m11 130 1 1) fun m15 => some ((0 : Int32), m15)) h hl hW hk
  rw [h.2.1, if_pos (show nj 3 = 3 from rfl), if_neg (show ¬ (1 : Int32) = 0 by decide), wi69 k hk, bp_s, decide_eq_true h69, tI_t, if_neg (show ¬ (1 : Int32) = 0 by decide), a1, vb_e]
  exact ⟨_, rfl, a2.s130 1, a3.sI (by decide), by rw [k_mI_sI (by omega)]; exact a4⟩
theorem g_13 (h : Fs p c 3 br cm S W) (hk : k < 60) (h69 : ¬ (6 ≤ k ∧ k ≤ 9)) : P_Formula_goOnWithSign (nj k) p = P_Formula_goOnWithSign_53 (nj k) 1 p := by
  unfold P_Formula_goOnWithSign P_Formula_goOnWithSign_13
  rw [h.2.1, if_pos (show nj 3 = 3 from rfl), if_neg (show ¬ (1 : Int32) = 0 by decide), wi69 k hk, bp_s, decide_eq_false h69, tI_f, if_pos rfl]
theorem g_close {W' : List Nat} (h : Fs p c 3 (br + 1) cm S W) (hb : br < 10) (hl : S.length + W.length < 500) (hW : ∀ w, w ∈ W → w < 1000) (hW' : (stO 1 W).2 = 14 :: W') :
    ∃ p', P_Formula_goOnWithSign (nj 15) p = some (0, p') ∧ Fs p' c 3 br cm (S ++ stE (stO 1 W).1) W' ∧ Cf p p' ∧ mI p' 779 = mI p 779 := by
  rw [g_13 h (by omega) (by omega)]
  unfold P_Formula_goOnWithSign_53
  obtain ⟨p1, a1, a2, a3, a4⟩ := settle_p h (by omega) hW (lim := 1) (by omega)
  have hlen := stO_len 1 W
  rw [hW'] at a2 hlen
  simp only [List.length_cons] at hlen
  have a1' : P_Formula_settle 1 p = _ := a1
  rw [if_neg (show ¬ (1 : Int32) = 0 by decide), if_pos (show nj 15 = 15 from rfl), h.2.2.1, if_neg (by rw [nj_le_l (by omega) (by omega)]; omega), a1', bn_s, vb_e, vb_e, k_mI_sI (by omega), a2.2.2.1, nj_sub_l (by omega), show br + 1 - OfNat.ofNat 1 = br from rfl]
  exact ⟨_, rfl, (a2.pop (by omega)).s131 br, (a3.sI (by decide)).sI (by decide), by rw [k_mI_sI (by omega), k_mI_sI (by omega)]; exact a4⟩
theorem g_53 (h : Fs p c 3 br cm S W) (hb : br < 10) (hk : k < 60) (hn : ¬ (k = 15 ∧ 0 < br)) : P_Formula_goOnWithSign_53 (nj k) 1 p = P_Formula_goOnWithSign_101 (nj k) 1 p := by
  unfold P_Formula_goOnWithSign_53
  have e : (nj k = 15) = (k = 15) := nj_eq_l (by omega) (by omega)
  rw [if_neg (show ¬ (1 : Int32) = 0 by decide)]
  by_cases z : k = 15
  · rw [if_pos (e.mpr z), h.2.2.1, if_pos (by rw [nj_le_l (by omega) (by omega)]; omega)]
  · rw [if_neg (fun w => z (e.mp w))]
theorem g_cmp (h : Fs p true 3 0 false S W) (hl : S.length + W.length < 500) (hW : ∀ w, w ∈ W → w < 1000) (hk : 10 ≤ k ∧ k ≤ 13) :
    ∃ p', P_Formula_goOnWithSign (nj k) p = some (0, p') ∧ Fs p' true 1 0 true (S ++ stE (stO 4 W).1) ((400 + k) :: (stO 4 W).2) ∧ Cf p p' ∧ mI p' 779 = mI p 779 := by
  rw [g_13 h (by omega) (by omega), g_53 h (by omega) (by omega) (by omega)]
  unfold P_Formula_goOnWithSign_101
  obtain ⟨p', a1, a2, a3, a4⟩ := sp_bn (K := fun m14 => vb (sI m14 132 1 1) fun m18 => vb (sI m18 130 1 1) fun m20 => some ((0 : Int32), m20)) h hl hW (show k < 60 by omega)
  rw [if_neg (show ¬ (1 : Int32) = 0 by decide), h.1, tI_t, if_neg (show ¬ (1 : Int32) = 0 by decide), h.2.2.2.1, tI_f, if_pos rfl, h.2.2.1, if_pos (show nj 0 = 0 from rfl), wi1013 k (by omega), bp_s, decide_eq_true hk, tI_t, if_neg (show ¬ (1 : Int32) = 0 by decide), a1, vb_e, vb_e]
  have er : rk k = 4 := by unfold rk; rw [if_neg (by omega), if_neg (by omega), if_neg (by omega), if_neg (by omega)]
  rw [er] at a2
  exact ⟨_, rfl, (a2.s132 true).s130 1, (a3.sI (by decide)).sI (by decide), by rw [k_mI_sI (by omega), k_mI_sI (by omega)]; exact a4⟩
/-- no text goes on with it -/
theorem g_syn (h : Fs p c 3 br cm S W) (hb : br < 10) (hk : k < 60) (h69 : ¬ (6 ≤ k ∧ k ≤ 9)) (h15 : ¬ (k = 15 ∧ 0 < br)) (hc : ¬ (c = true ∧ cm = false ∧ br = 0 ∧ 10 ≤ k ∧ k ≤ 13)) (hs : 0 < br ∨ (c = true ∧ cm = false)) : P_Formula_goOnWithSign (nj k) p = some (1, p) := by
  rw [g_13 h hk h69, g_53 h hb hk h15]
  have e166 : P_Formula_goOnWithSign_166 (nj k) 1 p = some (1, p) := by
    unfold P_Formula_goOnWithSign_166
    rw [h.2.2.1]
    by_cases z : 0 < br
    · rw [if_pos (by rw [nj_l_lt (by omega) (by omega)]; exact z)]
    · rcases hs with w | ⟨w1, w2⟩
      · exact absurd w z
      · rw [if_neg (by rw [nj_l_lt (by omega) (by omega)]; exact z), if_neg (show ¬ (1 : Int32) = 0 by decide), h.1, w1, tI_t, if_neg (show ¬ (1 : Int32) = 0 by decide), h.2.2.2.1, w2, tI_f, if_pos rfl]
  unfold P_Formula_goOnWithSign_101
  rw [if_neg (show ¬ (1 : Int32) = 0 by decide), e166]
  cases c with
  | false => rw [h.1, tI_f, if_pos rfl]
  | true =>
    rw [h.1, tI_t, if_neg (show ¬ (1 : Int32) = 0 by decide)]
    cases cm with
    | true => rw [h.2.2.2.1, tI_t, if_neg (show ¬ (1 : Int32) = 0 by decide)]
    | false =>
      rw [h.2.2.2.1, tI_f, if_pos rfl, h.2.2.1]
      by_cases z : br = 0
      · rw [if_pos (by rw [z]; rfl), wi1013 k hk, bp_s, decide_eq_false (fun w => hc ⟨rfl, rfl, z, w⟩), tI_f, if_pos rfl]
      · rw [if_neg (by rw [nj_eq_l (by omega) (by omega)]; exact z)]
/-- a LIT, an E is whole -/
theorem g_193 (h : Fs p c st 0 cm S W) (hk : k < 60) (hs : st = 4 ∨ (st = 3 ∧ ¬ (6 ≤ k ∧ k ≤ 9) ∧ (c = true → cm = true))) : P_Formula_goOnWithSign (nj k) p = P_Formula_goOnWithSign_193 (nj k) p := by
  rcases hs with z | ⟨z, z1, z2⟩
  · subst z
    unfold P_Formula_goOnWithSign P_Formula_goOnWithSign_13 P_Formula_goOnWithSign_53 P_Formula_goOnWithSign_101 P_Formula_goOnWithSign_166
    rw [h.2.1, if_neg (show ¬ nj 4 = 3 by decide), if_pos rfl, if_pos rfl, if_pos rfl, h.2.2.1, if_neg (show ¬ (0 : Int32) < nj 0 by decide), if_pos rfl]
  · subst z
    rw [g_13 h hk z1, g_53 h (by omega) hk (by omega)]
    have e166 : P_Formula_goOnWithSign_166 (nj k) 1 p = P_Formula_goOnWithSign_193 (nj k) p := by
      unfold P_Formula_goOnWithSign_166
      rw [h.2.2.1, if_neg (show ¬ (0 : Int32) < nj 0 by decide), if_neg (show ¬ (1 : Int32) = 0 by decide)]
      cases c with
      | false => rw [h.1, tI_f, if_pos rfl]
      | true => rw [h.1, tI_t, if_neg (show ¬ (1 : Int32) = 0 by decide), h.2.2.2.1, z2 rfl, tI_t, if_neg (show ¬ (1 : Int32) = 0 by decide)]
    unfold P_Formula_goOnWithSign_101
    rw [if_neg (show ¬ (1 : Int32) = 0 by decide), e166]
    cases c with
    | false => rw [h.1, tI_f, if_pos rfl]
    | true => rw [h.1, tI_t, if_neg (show ¬ (1 : Int32) = 0 by decide), h.2.2.2.1, z2 rfl, tI_t, if_neg (show ¬ (1 : Int32) = 0 by decide)]
theorem g_and (h : Fs p true st 0 cm S W) (hl : S.length + W.length < 500) (hW : ∀ w, w ∈ W → w < 1000) (hs : st = 4 ∨ (st = 3 ∧ cm = true)) (hk : k = 56 ∨ k = 57) :
    ∃ p', P_Formula_goOnWithSign (nj k) p = some (0, p') ∧ Fs p' true 0 0 false (S ++ stE (stO (rk k) W).1) ((rk k * 100 + k) :: (stO (rk k) W).2) ∧ Cf p p' ∧ mI p' 779 = mI p 779 := by
  rw [g_193 h (by omega) (by rcases hs with z | ⟨z1, z2⟩; exact Or.inl z; exact Or.inr ⟨z1, by omega, fun _ => z2⟩)]
  obtain ⟨p', a1, a2, a3, a4⟩ := sp_bn (K := fun m8 => vb (sI m8 132 1 0) fun m12 => vb (sI m12 130 1 0) fun m14 => some ((0 : Int32), m14)) h hl hW (show k < 60 by omega)
  have e212 : P_Formula_goOnWithSign_212 (nj k) p = some (0, sI (sI p' 132 1 0) 130 1 0) := by
    unfold P_Formula_goOnWithSign_212
    rw [a1, vb_e, vb_e]
  unfold P_Formula_goOnWithSign_193
  rw [h.1, tI_t, if_neg (show ¬ (1 : Int32) = 0 by decide), e212]
  refine ⟨_, ?_, (a2.s132 false).s130 0, (a3.sI (by decide)).sI (by decide), by rw [k_mI_sI (by omega), k_mI_sI (by omega)]; exact a4⟩
  rcases hk with rfl | rfl
  · rw [if_neg (show ¬ nj 56 = 57 by decide), if_pos (show nj 56 = 56 from rfl)]
    rfl
  · rw [if_pos (show nj 57 = 57 from rfl)]
    rfl
/-- the formula has ended -/
theorem g_end (h : Fs p c st 0 cm S W) (hl : S.length + W.length ≤ 500) (hW : ∀ w, w ∈ W → w < 1000) (hk : k < 60) (hs : st = 4 ∨ (st = 3 ∧ ¬ (6 ≤ k ∧ k ≤ 9) ∧ (c = true → cm = true))) (hn : c = true → k ≠ 56 ∧ k ≠ 57) :
    ∃ p', P_Formula_goOnWithSign (nj k) p = some (0, p') ∧ mI p' 128 1 = 1 ∧ mI p' 134 1 = nj (S ++ stE (stO 1 W).1).length ∧ Sq (aI p' 2) (S ++ stE (stO 1 W).1) ∧ Cf p p' ∧ mI p' 779 = mI p 779 := by
  rw [g_193 h hk hs]
  obtain ⟨p1, a1, a2, a3, a4⟩ := settle_p h hl hW (lim := 1) (by omega)
  have a1' : P_Formula_settle 1 p = _ := a1
  have e241 : P_Formula_goOnWithSign_241 p = some (0, sI p1 128 1 1) := by
    unfold P_Formula_goOnWithSign_241
    rw [a1', bn_s, vb_e]
  refine ⟨sI p1 128 1 1, ?_, by rw [k_mI_sI_e, up1_ap, if_pos rfl], by rw [k_mI_sI (by omega)]; exact a2.2.2.2.2.2.1, by rw [k_aI_sI]; exact a2.2.2.2.2.2.2.1, a3.sI (by decide), by rw [k_mI_sI (by omega)]; exact a4⟩
  unfold P_Formula_goOnWithSign_193
  rw [e241]
  cases c with
  | false => rw [h.1, tI_f, if_pos rfl]
  | true =>
    have := hn rfl
    rw [h.1, tI_t, if_neg (show ¬ (1 : Int32) = 0 by decide), if_neg (by rw [nj_eq_l (by omega) (by omega)]; exact this.2), if_neg (by rw [nj_eq_l (by omega) (by omega)]; exact this.1)]
/-- units -/
theorem u_69 {x2 : Int32} (h : Fs p c st br cm S W) (hs : st = 1 ∨ (st = 0 ∧ k ≠ 58 ∧ k ≠ 59)) (hk : k < 60) : P_Formula_goOnWithUnit (nj k) x2 p = P_Formula_goOnWithUnit_69 (nj k) x2 p := by
  unfold P_Formula_goOnWithUnit P_Formula_goOnWithUnit_49
  rw [h.2.1]
  rcases hs with rfl | ⟨rfl, z1, z2⟩
  · rw [if_neg (show ¬ nj 1 = 2 by decide), if_neg (show ¬ nj 1 = 0 by decide), if_neg (show ¬ nj 1 = 0 by decide)]
  · rw [if_neg (show ¬ nj 0 = 2 by decide), if_pos (show nj 0 = 0 from rfl), if_neg (by rw [nj_eq_l (by omega) (by omega)]; exact z1), if_pos (show nj 0 = 0 from rfl), if_neg (by rw [nj_eq_l (by omega) (by omega)]; exact z2)]
theorem u_open {x2 : Int32} (h : Fs p c st br cm S W) (hs : st = 1 ∨ st = 0) (hb : br < 6) (hl : S.length + W.length < 500) :
    ∃ p', P_Formula_goOnWithUnit (nj 14) x2 p = some (0, p') ∧ Fs p' c 1 (br + 1) cm S (14 :: W) ∧ Cf p p' ∧ mI p' 779 = mI p 779 := by
  rw [u_69 h (by omega) (by omega)]
  unfold P_Formula_goOnWithUnit_69
  rw [if_pos (show nj 14 = 14 from rfl), h.2.2.1, if_pos (by rw [nj_lt_l (by omega) (by omega)]; exact hb), vb_e, nj_add_l]
  obtain ⟨p', a1, a2, a3, a4⟩ := putOff_e (h.s131 (br + 1)) (by omega) 14 0
  have a1' : P_Formula_putOff 14 0 (sI p 131 1 (nj (br + 1))) = _ := a1
  rw [show br + OfNat.ofNat 1 = br + 1 from rfl, a1', bn_s, vb_e]
  exact ⟨_, rfl, a2.s130 1, (Cf.trans (Cf.rfl.sI (by decide)) a3).sI (by decide), by rw [k_mI_sI (by omega), a4, k_mI_sI (by omega)]⟩
theorem u_room {x2 : Int32} (h : Fs p c st 6 cm S W) (hs : st = 1 ∨ st = 0) : P_Formula_goOnWithUnit (nj 14) x2 p = some (2, p) := by
  rw [u_69 h (by omega) (by omega)]
  unfold P_Formula_goOnWithUnit_69
  rw [if_pos (show nj 14 = 14 from rfl), h.2.2.1, if_neg (show ¬ nj 6 < 6 by decide)]
theorem u_opd {x2 : Int32} (h : Fs p c st br cm S W) (hs : st = 1 ∨ st = 0) (hk : k = 3 ∨ (20 ≤ k ∧ k ≤ 31)) (hl : S.length + W.length < 500) :
    ∃ p', P_Formula_goOnWithUnit (nj k) x2 p = some (0, p') ∧ Fs p' c 3 br cm (S ++ [nj k * 10000 + if k = 3 then x2 else 0]) W ∧ Cf p p' ∧ mI p' 779 = mI p 779 := by
  rw [u_69 h (by omega) (by omega)]
  unfold P_Formula_goOnWithUnit_69 P_Formula_goOnWithUnit_85 P_Formula_goOnWithUnit_97 P_Formula_goOnWithUnit_113 P_Formula_goOnWithUnit_118 P_Formula_goOnWithOperand
  obtain ⟨p', a1, a2, a3, a4⟩ := addStep_e h (by omega) (nj k) (if k = 3 then x2 else 0)
  refine ⟨sI p' 130 1 3, ?_, a2.s130 3, a3.sI (by decide), by rw [k_mI_sI (by omega)]; exact a4⟩
  rw [if_neg (by rw [nj_eq_l (by omega) (by omega)]; omega)]
  by_cases z : k = 3
  · rw [if_pos z] at a1
    rw [if_pos (by rw [nj_eq_l (by omega) (by omega)]; exact z), if_neg (show ¬ (1 : Int32) = 0 by decide), if_neg (show ¬ (1 : Int32) = 0 by decide), if_neg (show ¬ (1 : Int32) = 0 by decide), a1, bn_s, vb_e, bn_s]
  · rw [if_neg z] at a1
    rw [if_neg (by rw [nj_eq_l (by omega) (by omega)]; exact z), if_pos rfl, if_pos rfl, wi2031 k (by omega), bp_s, decide_eq_true (by omega), tI_t, if_neg (show ¬ (1 : Int32) = 0 by decide), if_neg (show ¬ (1 : Int32) = 0 by decide), a1, bn_s, vb_e, bn_s]
theorem u_syn {x2 : Int32} (h : Fs p c st br cm S W) (hs : st = 1 ∨ (st = 0 ∧ k ≠ 58 ∧ k ≠ 59)) (hk : k < 60) (hn : k ≠ 14 ∧ k ≠ 3 ∧ ¬ (20 ≤ k ∧ k ≤ 31)) : P_Formula_goOnWithUnit (nj k) x2 p = some (1, p) := by
  rw [u_69 h hs hk]
  unfold P_Formula_goOnWithUnit_69 P_Formula_goOnWithUnit_85 P_Formula_goOnWithUnit_97 P_Formula_goOnWithUnit_118 P_Formula_goOnWithOperand
  rw [if_neg (by rw [nj_eq_l (by omega) (by omega)]; omega), if_neg (by rw [nj_eq_l (by omega) (by omega)]; omega), if_pos rfl, if_pos rfl, wi2031 k (by omega), bp_s, decide_eq_false hn.2.2, tI_f, if_pos rfl, if_pos rfl, bn_s]
theorem u_not {x2 : Int32} (h : Fs p c 0 br cm S W) (hl : S.length + W.length < 500) : ∃ p', P_Formula_goOnWithUnit (nj 58) x2 p = some (0, p') ∧ Fs p' c 0 br cm S (358 :: W) ∧ Cf p p' ∧ mI p' 779 = mI p 779 := by
  unfold P_Formula_goOnWithUnit
  obtain ⟨p', a1, a2, a3, a4⟩ := putOff_e h (by omega) 58 3
  have a1' : P_Formula_putOff 58 3 p = _ := a1
  rw [h.2.1, if_neg (show ¬ nj 0 = 2 by decide), if_pos (show nj 0 = 0 from rfl), if_pos (show nj 58 = 58 from rfl), a1', bn_s]
  exact ⟨p', rfl, a2, a3, a4⟩
theorem u_ticket {x2 : Int32} (h : Fs p c 0 br cm S W) : ∃ p', P_Formula_goOnWithUnit (nj 59) x2 p = some (0, p') ∧ Fs p' c 2 br cm S W ∧ Cf p p' ∧ mI p' 779 = mI p 779 := by
  unfold P_Formula_goOnWithUnit P_Formula_goOnWithUnit_49
  rw [h.2.1, if_neg (show ¬ nj 0 = 2 by decide), if_pos (show nj 0 = 0 from rfl), if_neg (show ¬ nj 59 = 58 by decide), if_pos (show nj 0 = 0 from rfl), if_pos (show nj 59 = 59 from rfl), vb_e]
  exact ⟨_, rfl, h.s130 2, Cf.rfl.sI (by decide), by rw [k_mI_sI (by omega)]⟩
theorem u_tint {x2 : Int32} (h : Fs p c 2 br cm S W) (hl : S.length + W.length < 500) : ∃ p', P_Formula_goOnWithUnit (nj 3) x2 p = some (0, p') ∧ Fs p' c 4 br cm (S ++ [590000 + x2]) W ∧ Cf p p' ∧ mI p' 779 = mI p 779 := by
  unfold P_Formula_goOnWithUnit P_Formula_goOnWithUnit_23 P_Formula_goOnWithOperand
  obtain ⟨p', a1, a2, a3, a4⟩ := addStep_e h (by omega) 59 x2
  rw [h.2.1, if_pos (show nj 2 = 2 from rfl), if_pos (show nj 3 = 3 from rfl), if_neg (show ¬ (1 : Int32) = 0 by decide), a1, bn_s, vb_e, bn_s]
  exact ⟨_, rfl, a2.s130 4, a3.sI (by decide), by rw [k_mI_sI (by omega)]; exact a4⟩
theorem u_tsyn {x2 : Int32} (h : Fs p c 2 br cm S W) (hk : k < 60) (hn : k ≠ 3) : P_Formula_goOnWithUnit (nj k) x2 p = some (1, p) := by
  unfold P_Formula_goOnWithUnit P_Formula_goOnWithUnit_23 P_Formula_goOnWithOperand
  rw [h.2.1, if_pos (show nj 2 = 2 from rfl), if_neg (by rw [nj_eq_l (by omega) (by omega)]; exact hn), if_pos rfl, bn_s]
end Tn
