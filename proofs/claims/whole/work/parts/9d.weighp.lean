/-! Layer C: the class's weigh and nextWay -/
theorem cpok_t {s n0 n1 : Nat} (h0 : s ≤ n0) (h1 : s ≤ n1) (hs : s < 100) : cpok 0 0 (nj s) n0 n1 = true := by
  unfold cpok
  rw [ix_nj (by omega), show ix 0 = 0 from rfl]
  have e0 : ¬ (0 : Int32) < 0 := by decide
  have e1 : ¬ nj s < 0 := fun z => (nj_nneg (by omega)).mp z
  rw [decide_eq_true e0, decide_eq_true e1, decide_eq_true (show 0 + s ≤ n0 by omega), decide_eq_true (show 0 + s ≤ n1 by omega)]
  rfl
theorem cp_at {m : Mem} {a0 a s i : Nat} (h : i < s) : aI (cpI m a0 0 a 0 s) a i = aI m a0 i := by
  rw [kc_aI_e]
  unfold va_cpy
  show (if 0 ≤ i ∧ i < 0 + s then aI m a0 (0 + (i - 0)) else _) = _
  rw [if_pos (by omega), Nat.zero_add, Nat.sub_zero]
section Wf
variable {m : Mem} {s : Nat} {L : List Nat} {mb tv : Nat → Nat} {ap : Nat → Nat → Bool}
theorem P_weigh_103_e (h : PR m s L mb tv ap) (h60 : 51 ≤ mC m) (hN : PNs m) {t g : Nat} {va : Nat → Nat} (ht : t < 100) (hg : g < 100) (hv : ∀ i, i < s → aI m 48 (L.getD i 0) = nj (va (L.getD i 0))) :
    ∃ m', P_Parting_weigh_103 (nj g) (nj t) m = some ((), m') ∧ PH m m' ∧ BR m' s (some (t, g, fun i => L.getD i 0, fun i => va (L.getD i 0))) := by
  have hs := h.1
  unfold P_Parting_weigh_103
  simp only [vb_e]
  have e1 : mI (sI (sI m 906 41 (nj t)) 907 41 (nj g)) 901 41 = nj s := by rw [k_mI_sI (by omega), k_mI_sI (by omega)]; exact h.2.1
  have e2 : ∀ m1 : Mem, mI (cpI m1 47 (ix 0) 49 (ix 0) (ix (nj s))) = mI m1 := fun _ => id rfl
  have e3 : ∀ m1 : Mem, mN (cpI m1 47 (ix 0) 49 (ix 0) (ix (nj s))) = mN m1 := fun _ => id rfl
  rw [e1, k_mN_sI, k_mN_sI, hN.1, hN.2.2.1, gd_t (cpok_t hs hs (by omega)), e2, e1, e3, k_mN_sI, k_mN_sI, hN.2.1, hN.2.2.2, gd_t (cpok_t hs hs (by omega)), ix_nj (by omega), show ix 0 = 0 from rfl]
  refine ⟨_, rfl, ⟨ch_cpI (ch_cpI ((Ch.rfl.sI (by decide)).sI (by decide)) (by decide)) (by decide), ?_, ?_⟩, ht, ?_, hg, ?_, fun i hi => ?_⟩
  · rw [kc_mC, kc_mC, k_mC_sI, k_mC_sI]
  · rw [kc_mS, kc_mS, k_mS_sI, k_mS_sI]
  · show mI (sI (sI m 906 41 (nj t)) 907 41 (nj g)) 906 41 = nj t
    rw [k_mI_sI (by omega), k_mI_sI_e, up1_ap, if_pos rfl]
  · show mI (sI (sI m 906 41 (nj t)) 907 41 (nj g)) 907 41 = nj g
    rw [k_mI_sI_e, up1_ap, if_pos rfl]
  · have hl := h.2.2.1 i hi
    refine ⟨by show L.getD i 0 < 7; omega, ?_, ?_⟩
    · rw [kc_aI (by omega), cp_at hi, k_aI_sI, k_aI_sI]
      exact hl.2.2.2
    · show aI (cpI (cpI (sI (sI m 906 41 (nj t)) 907 41 (nj g)) 47 0 49 0 s) 48 0 50 0 s) 50 (L.getD i 0) = _
      rw [cp_at (by omega), kc_aI (by omega), k_aI_sI, k_aI_sI]
      exact hv i hi
theorem P_weigh_69_e (h : PR m s L mb tv ap) (h60 : 51 ≤ mC m) (hN : PNs m) {t g : Nat} {va : Nat → Nat} {B : BW} (hB : BR m s B) (ht : t < 100) (hg : g < 100) (hv : ∀ i, i < s → aI m 48 (L.getD i 0) = nj (va (L.getD i 0))) :
    ∃ m', P_Parting_weigh_69 (nj g) (nj t) m = some ((), m') ∧ PH m m' ∧ BR m' s (if bet t g B = true then some (t, g, fun i => L.getD i 0, fun i => va (L.getD i 0)) else B) := by
  have yes := P_weigh_103_e h h60 hN ht hg hv
  unfold P_Parting_weigh_69
  cases B with
  | none =>
    rw [if_pos (show mI m 906 41 = -1 from hB)]
    rw [if_pos (show bet t g none = true from rfl)]
    exact yes
  | some b =>
    obtain ⟨b1, b2, b3, b4, b5⟩ := id hB
    have eb : (bet t g (some b) = true) = (t < b.1 ∨ (t = b.1 ∧ g < b.2.1)) := by
      show ((decide (t < b.1) || (decide (t = b.1) && decide (g < b.2.1))) = true) = _
      rw [Bool.or_eq_true, Bool.and_eq_true, decide_eq_true_eq, decide_eq_true_eq, decide_eq_true_eq]
    have no : ¬ bet t g (some b) = true → ∃ m', some ((), m) = some ((), m') ∧ PH m m' ∧ BR m' s (if bet t g (some b) = true then some (t, g, fun i => L.getD i 0, fun i => va (L.getD i 0)) else some b) := fun z => ⟨m, rfl, PH.rfl, by rw [if_neg z]; exact hB⟩
    have ok : bet t g (some b) = true → ∃ m', P_Parting_weigh_103 (nj g) (nj t) m = some ((), m') ∧ PH m m' ∧ BR m' s (if bet t g (some b) = true then some (t, g, fun i => L.getD i 0, fun i => va (L.getD i 0)) else some b) := fun z => by
      rw [if_pos z]
      exact yes
    rw [b2, b4]
    simp only [nj_ne_m1 (show b.1 < 2147483648 by omega), nj_lt (show t < 2147483648 by omega) (show b.1 < 2147483648 by omega), nj_inj (show t < 2147483648 by omega) (show b.1 < 2147483648 by omega), nj_le (show b.2.1 < 2147483648 by omega) (show g < 2147483648 by omega), if_false]
    by_cases u1 : t < b.1
    · rw [if_pos u1]
      exact ok (eb.mpr (Or.inl u1))
    · rw [if_neg u1]
      by_cases u2 : t = b.1
      · rw [if_pos u2]
        by_cases u3 : b.2.1 ≤ g
        · rw [if_pos u3]
          exact no (by rw [eb]; omega)
        · rw [if_neg u3]
          exact ok (by rw [eb]; omega)
      · rw [if_neg u2]
        exact no (by rw [eb]; omega)
theorem mxL_gt : ∀ n i, i < n → L.getD i 0 < mxL L n
  | 0, i, h => absurd h (Nat.not_lt_zero i)
  | n + 1, i, h => by
    have e : mxL L (n + 1) = max (mxL L n) (L.getD n 0 + 1) := rfl
    by_cases z : i = n
    · rw [z]
      omega
    · have := mxL_gt n i (by omega)
      omega
theorem toV_no {v : Nat → Nat} {q : Nat → Nat → Bool} {d j : Nat} (h : toV L v q d s j = none) : ∀ n, j ≤ n → toV L v q d s n = none
  | 0, hn => by rw [← show j = 0 by omega]; exact h
  | n + 1, hn => by
    by_cases z : j = n + 1
    · rw [← z]
      exact h
    · have e : toV L v q d s (n + 1) = match toV L v q d s n, seV L v q d n s with
        | some t, some x => some (t + x.1)
        | _, _ => none := rfl
      rw [e, toV_no h n (by omega)]
theorem P_weigh_21_e {d : Nat} {B : BW} (hd : d < 1000) (htv : ∀ i, tv (mb i) < 1000) : ∀ (k j fu t : Nat) (m : Mem), PR m s L mb tv ap → 51 ≤ mC m → PNs m → BR m s B → j + k = mxL L s → k < fu →
    toV L (fun i => tv (mb i)) (fun a b => ap (mb a) (mb b)) d s j = some t → t ≤ 7 * j → (∀ c, c < j → aI m 48 c = nj (vaV L (fun i => tv (mb i)) (fun a b => ap (mb a) (mb b)) d s c)) →
    ∃ m', P_Parting_weigh_21 fu (nj d) (nj (mxL L s)) (nj t) (nj j) m = some ((), m') ∧ PH m m' ∧ BR m' s (match toV L (fun i => tv (mb i)) (fun a b => ap (mb a) (mb b)) d s (mxL L s) with
      | none => B
      | some t => if bet t (mxL L s) B = true then some (t, mxL L s, fun i => L.getD i 0, fun i => vaV L (fun i => tv (mb i)) (fun a b => ap (mb a) (mb b)) d s (L.getD i 0)) else B)
  | 0, j, fu + 1, t, m, h, h60, hN, hB, h1, _, h3, h4, h5 => by
    have hs := h.1
    have hm := mxL_le h.le s (Nat.le_refl _)
    rw [P_Parting_weigh_21.eq_2, if_pos (by rw [nj_le (by omega) (by omega)]; omega), ← show j = mxL L s by omega, h3]
    exact P_weigh_69_e h h60 hN hB (by omega) (by omega) (fun i hi => h5 _ (by have := mxL_gt (L := L) s i hi; omega))
  | k + 1, j, fu + 1, t, m, h, h60, hN, hB, h1, h2, h3, h4, h5 => by
    have hs := h.1
    have hm := mxL_le h.le s (Nat.le_refl _)
    rw [P_Parting_weigh_21.eq_2, if_neg (by rw [nj_le (by omega) (by omega)]; omega), P_isTorn_e h (by omega), bn_s]
    have e : toV L (fun i => tv (mb i)) (fun a b => ap (mb a) (mb b)) d s (j + 1) = match toV L (fun i => tv (mb i)) (fun a b => ap (mb a) (mb b)) d s j, seV L (fun i => tv (mb i)) (fun a b => ap (mb a) (mb b)) d j s with
        | some t, some x => some (t + x.1)
        | _, _ => none := rfl
    rw [h3] at e
    have stop : seV L (fun i => tv (mb i)) (fun a b => ap (mb a) (mb b)) d j s = none → ∃ m', some ((), m) = some ((), m') ∧ PH m m' ∧ BR m' s (match toV L (fun i => tv (mb i)) (fun a b => ap (mb a) (mb b)) d s (mxL L s) with
      | none => B
      | some t => if bet t (mxL L s) B = true then some (t, mxL L s, fun i => L.getD i 0, fun i => vaV L (fun i => tv (mb i)) (fun a b => ap (mb a) (mb b)) d s (L.getD i 0)) else B) := by
      intro z
      rw [z] at e
      rw [toV_no e (mxL L s) (by omega)]
      exact ⟨m, rfl, PH.rfl, hB⟩
    unfold P_Parting_weigh_47
    cases hto : tnV L (fun a b => ap (mb a) (mb b)) j s with
    | true =>
      rw [tI_t, if_neg (show ¬ (1 : Int32) = 0 by decide), if_pos rfl]
      refine stop ?_
      unfold seV
      rw [if_pos (Or.inl hto)]
    | false =>
      rw [tI_f, if_pos (show (0 : Int32) = 0 from rfl)]
      rcases P_settle_e h h60 (by omega) hd htv hto with ⟨z1, z2⟩ | ⟨x, m1, z1, z2, z3, z4, z5⟩
      · rw [z2, bn_s, if_pos rfl]
        exact stop z1
      · rw [z3, bn_s, if_neg (by rw [nj_ne_m1 (by omega)]; exact fun w => w), vb_e, vb_e, nj_add, nj_add_l]
        rw [z1] at e
        obtain ⟨m', i1, i2, i3⟩ := P_weigh_21_e hd htv k (j + 1) fu (t + x.1) m1 (PR_pg h h60 z4) (by rw [z4.2.1]; exact h60) (PNs_ph hN h60 z4.ph) (BR_pg hB h60 z4) (by omega) (by omega) e (by omega) (fun c hc => by
          rw [z5]
          by_cases w : c = j
          · rw [if_pos w, w]
            unfold vaV
            rw [z1]
          · rw [if_neg w]
            exact h5 c (by omega))
        exact ⟨m', i1, z4.ph.trans i2, i3⟩
theorem P_weigh_e {k d : Nat} {B : BW} (hd : d < 1000) (hk : k < 100) (htv : ∀ i, tv (mb i) < 1000) (h : PR m s L mb tv ap) (h60 : 51 ≤ mC m) (hN : PNs m) (hB : BR m s B) :
    ∃ m', P_Parting_weigh (nj k) (nj d) m = some ((), m') ∧ PH m m' ∧ BR m' s (wgh L (fun i => tv (mb i)) (fun a b => ap (mb a) (mb b)) d s k B) := by
  have hs := h.1
  have hm := mxL_le h.le s (Nat.le_refl _)
  unfold P_Parting_weigh
  rw [h.2.1, P_groupsAmong_e h (Nat.le_refl _), bn_s]
  unfold wgh
  by_cases z : mxL L s ≤ k
  · rw [if_pos (by rw [nj_le (by omega) (by omega)]; exact z), if_pos z]
    exact P_weigh_21_e hd htv (mxL L s) 0 FU 0 m h h60 hN hB (by omega) (by unfold FU; omega) rfl (Nat.le_refl _) (fun c hc => absurd hc (Nat.not_lt_zero c))
  · rw [if_neg (by rw [nj_le (by omega) (by omega)]; exact z), if_neg z]
    exact ⟨m, rfl, PH.rfl, hB⟩
end Wf
