/-! Layer C: the title of a TEXT, both sides -/
/-- the last award of that name -/
def lstA (D : Dt) (nm : Int32) : Nat → Int32
  | 0 => -1
  | i + 1 => if D.1 8 i = 0 ∧ D.1 9 i = nm then nj i else lstA D nm i
theorem lst_n {D : Dt} {nm : Int32} : ∀ n, (∀ k, k < n → ¬ (D.1 8 k = 0 ∧ D.1 9 k = nm)) → lstA D nm n = -1
  | 0, _ => rfl
  | n + 1, h => by
    unfold lstA
    rw [if_neg (h n (by omega))]
    exact lst_n n (fun k hk => h k (by omega))
theorem lst_s {D : Dt} {nc k : Nat} {nm : Int32} (W : WText D nc) (h8 : D.1 8 k = 0) (h9 : D.1 9 k = nm) : ∀ n, k < n → n ≤ D.2.1 → lstA D nm n = nj k
  | 0, h, _ => absurd h (by omega)
  | n + 1, h, h2 => by
    unfold lstA
    by_cases z : D.1 8 n = 0 ∧ D.1 9 n = nm
    · rw [if_pos z, W.2.2.2.2 n k (by omega) (by omega) z.1 h8 (z.2.trans h9.symm)]
    · rw [if_neg z]
      refine lst_s W h8 h9 n ?_ (by omega)
      by_cases e : k = n
      · subst e; exact absurd ⟨h8, h9⟩ z
      · omega
theorem lst_awd {D : Dt} {nc : Nat} {nm : Int32} (W : WText D nc) : (lstA D nm D.2.1 = -1 ∧ awd D nm = none) ∨ ∃ k, k < D.2.1 ∧ lstA D nm D.2.1 = nj k ∧ awd D nm = some k := by
  cases e : awd D nm with
  | none => exact Or.inl ⟨lst_n _ (fun k hk w => awd_none e hk w.1 w.2), rfl⟩
  | some k =>
    obtain ⟨h1, h2, h3⟩ := (awd_iff W).mp e
    exact Or.inr ⟨k, h1, lst_s W h2 h3 _ h1 (Nat.le_refl _), rfl⟩
theorem R137_e {m : Mem} {D : Dt} {x : Nat} {s y2 w : Int32} (hx : x ≤ 23) (h54 : mI m 1554 0 = nj x) (h88 : mI m 1588 0 = nj x) (h8 : ∀ k, k < x → aI m 8 k = D.1 8 k ∧ aI m 9 k = D.1 9 k) (h9 : aI m 9 x = w) : ∀ (d i fu : Nat), i + d = x → d < fu → R_tellHead_137 fu s y2 (lstA D w i) (nj i) m = R_tellHead_184 s y2 (lstA D w x) m
  | 0, i, fu + 1, h, _ => by
    rw [R_tellHead_137.eq_2, h54, if_pos (by rw [nj_le (by omega) (by omega)]; omega), show i = x by omega]
  | d + 1, i, fu + 1, h, h2 => by
    have ih := R137_e (s := s) (y2 := y2) hx h54 h88 h8 h9 d (i + 1) fu (by omega) (by omega)
    rw [show lstA D w (i + 1) = if D.1 8 i = 0 ∧ D.1 9 i = w then nj i else lstA D w i from rfl] at ih
    rw [R_tellHead_137.eq_2, h54, if_neg (by rw [nj_le (by omega) (by omega)]; omega), inb_nj (by omega), gd_t (decide_eq_true (by omega)), gd_t (decide_eq_true (by omega)), h88, inb_nj (by omega), gd_t (decide_eq_true (by omega)), ix_nj (by omega), ix_nj (by omega), (h8 i (by omega)).1, (h8 i (by omega)).2, h9]
    unfold R_tellHead_178
    simp only [vb_e, nj_add_l]
    by_cases z : D.1 8 i = 0
    · rw [if_pos z]
      by_cases y : D.1 9 i = w
      · rw [if_pos y]
        rw [if_pos ⟨z, y⟩] at ih
        exact ih
      · rw [if_neg y]
        rw [if_neg (fun q => y q.2)] at ih
        exact ih
    · rw [if_neg z]
      rw [if_neg (fun q => z q.1)] at ih
      exact ih
/-- what is wrong with a title -/
def ktO (s0 : Nat) (told : Bool) : Nat := if s0 = 0 then (if told = true then 3 else 0) else (if told = true then 0 else 4)
theorem ktO_b (s0 : Nat) (told : Bool) : ktO s0 told < 100 ∧ (ktO s0 told = 0 ↔ ((s0 = 0 → told = false) ∧ (s0 ≠ 0 → told = true))) := by
  unfold ktO
  by_cases z : s0 = 0
  · cases told <;> simp [z]
  · cases told <;> simp [z]
theorem title_e {m : Mem} {s0 t q : Nat} (told : Bool) (h0 : s0 < 4) (h783 : mI m 783 22 = nj s0) (hm : mI m 779 22 = nj t) (ht : t ≤ 500) (hq : aI m 19 t = nj q) : P_Parser_takeTitle_53 (tI told) m = P_Parser_takeTitle_89 (if ktO s0 told = 0 then m else ntP (ktO s0 told) q m) := by
  have l3 : P_Parser_noteLate 3 m = some ((), ntP 3 q m) := late_e 3 hm ht hq
  have l4 : P_Parser_noteLate 4 m = some ((), ntP 4 q m) := late_e 4 hm ht hq
  have e0 : (nj s0 = 0) = (s0 = 0) := nj_eq_l (by omega) (by omega)
  unfold P_Parser_takeTitle_53 P_Parser_takeTitle_73 ktO
  rw [h783, l3, l4, bn_s, bn_s]
  by_cases z : s0 = 0
  · rw [if_pos (e0.mpr z), if_pos (e0.mpr z), if_pos z]
    cases told
    · rw [tI_f, if_pos rfl]; rfl
    · rw [tI_t, if_neg (show ¬ (1 : Int32) = 0 by decide)]; rfl
  · rw [if_neg (fun w => z (e0.mp w)), if_neg (fun w => z (e0.mp w)), if_neg z]
    cases told
    · rw [tI_f, if_pos rfl]; rfl
    · rw [tI_t, if_neg (show ¬ (1 : Int32) = 0 by decide)]; rfl
theorem t133_e {q m' : Mem} {t : Nat} (hm : mI q 779 22 = nj t) (ht : t ≤ 500) (e : P_Parser_takeName_133 q = some (1, m')) : mI m' 780 22 = mI q 780 22 := by
  unfold P_Parser_takeName_133 at e
  obtain ⟨t1, t2⟩ := take_e hm ht
  by_cases w : t < 500
  · rw [t1 w, bn_s, gz_t (Or.inr rfl)] at e
    rw [← (Prod.mk.inj (Option.some.inj e)).2, k_mI_sI (by omega)]
  · obtain ⟨p', b1, b2⟩ := t2 (by omega)
    rw [b1, bn_s, gz_t (Or.inl rfl)] at e
    exact absurd (Prod.mk.inj (Option.some.inj e)).1 (by decide)
/-- the number that a NAME gets -/
theorem name_v {m m' : Mem} {t n : Nat} (hm : mI m 779 22 = nj t) (ht : t ≤ 500) (hk : aI m 18 t = 2) (hn : n ≤ 60) (h771 : mI m 771 22 = nj n) (e : P_Parser_takeName m = some (1, m')) : mI m' 780 22 = if fsA (aL m 23) (aL m 20 t) n 0 < n then nj (fsA (aL m 23) (aL m 20 t) n 0) else if n < 60 then nj n else -1 := by
  have eN : P_Parser_numberOf_2 FU (aL m 20 t) 0 m = some (if fsA (aL m 23) (aL m 20 t) n 0 < n then nj (fsA (aL m 23) (aL m 20 t) n 0) else -1, m) := numberOf_e hn h771 n 0 FU (by omega) (by unfold FU; omega)
  have e780 : ∀ v, mI (sI m 780 22 v) 780 22 = v := fun v => by rw [k_mI_sI_e, up1_ap, if_pos rfl]
  have e779 : ∀ v, mI (sI m 780 22 v) 779 22 = nj t := fun v => by rw [k_mI_sI (by omega)]; exact hm
  have e771 : ∀ v, mI (sI m 780 22 v) 771 22 = nj n := fun v => by rw [k_mI_sI (by omega)]; exact h771
  unfold P_Parser_takeName P_Parser_numberOf at e
  rw [hm, inb_nj (by omega), gd_t (decide_eq_true (by omega)), ix_nj (by omega), hk, if_pos rfl, gd_t (decide_eq_true (by omega)), eN, bn_s, vb_e, e780, e771, e779] at e
  unfold P_Parser_takeName_101 at e
  rw [e780, e779] at e
  by_cases z : fsA (aL m 23) (aL m 20 t) n 0 < n
  · rw [if_pos z] at e ⊢
    rw [if_neg (by rw [nj_ne_m1 (by omega)]; exact id)] at e
    rw [if_neg (by rw [nj_ne_m1 (by omega)]; exact id)] at e
    rw [t133_e (e779 _) ht e, e780]
  · rw [if_neg z] at e ⊢
    rw [if_pos rfl] at e
    by_cases y : n < 60
    · rw [if_pos y]
      rw [if_neg (by rw [nj_l_le (by omega) (by omega)]; omega), inb_nj (by omega), gd_t (decide_eq_true (by omega)), inb_nj (by omega), gd_t (decide_eq_true (by omega)), vb_e, vb_e, vb_e] at e
      have f1 : mI (wL (sI m 780 22 (-1)) 23 (ix (nj n)) (aL (sI m 780 22 (-1)) 20 (ix (nj t)))) 771 22 = nj n := by rw [k_mI_wL]; exact e771 _
      rw [f1] at e
      rw [t133_e (by rw [k_mI_sI (by omega), k_mI_sI (by omega), k_mI_wL]; exact e779 _) ht e, k_mI_sI (by omega), k_mI_sI_e, up1_ap, if_pos rfl]
    · rw [if_neg y]
      rw [if_pos (by rw [nj_l_le (by omega) (by omega)]; omega), if_pos rfl] at e
      have k7 : ∀ q, mI q 780 22 = -1 → mI q 779 22 = nj t → P_Parser_takeName_133 q = some (1, m') → mI m' 780 22 = -1 := fun q q1 q2 q3 => by rw [t133_e q2 ht q3]; exact q1
      by_cases u : mI (sI m 780 22 (-1)) 778 22 = -1
      · rw [if_pos u, inb_nj (by omega), gd_t (decide_eq_true (by omega)), vb_e] at e
        exact k7 _ (by rw [k_mI_sI (by omega)]; exact e780 _) (by rw [k_mI_sI (by omega)]; exact e779 _) e
      · rw [if_neg u] at e
        exact k7 _ (e780 _) (e779 _) e
