/-! Layer C: the reference's tokens and keys -/
theorem R_token_e {m : Mem} {k : Nat} {x1 x2 x3 : Int32} {x4 : Int64} (hm : mI m 1546 0 = nj k) (hk : k < 503) : R_token x1 x2 x3 x4 m = some ((), sI (wL (wI (wI (wI m 3 k x1) 4 k x2) 5 k x3) 6 k x4) 1546 0 (nj (k + 1))) := by
  unfold R_token
  have g : ∀ {β : Type} (z : Option β), gd (inb (nj k) 503) z = z := fun z => by rw [inb_nj (by omega), gd_t (decide_eq_true (by omega))]
  simp only [vb_e, k_mI_wI, k_mI_wL, hm, g, ix_nj (show k < 2147483648 by omega), nj_add_l]
/-- the last key that hits -/
def kyL (ky : Nat → Int64) (x : Int64) : Nat → Nat → Nat → Nat
  | 0, _, c => c
  | d + 1, i, c => kyL ky x d (i + 1) (if ky i = x then 20 + i else c)
theorem R_cut_146_e {m : Mem} {k7 : Int32 → Mem → Option (Unit × Mem)} {x1 x3 : Int32} {x4 : Int64} : ∀ (d i c fu : Nat), i + d = 40 → d < fu → R_cut_146 k7 fu x1 x3 x4 (nj c) (nj i) m = R_cut_179 k7 x1 x3 x4 (nj (kyL (aL m 7) x4 d i c)) m
  | 0, i, c, fu + 1, h, _ => by
    rw [R_cut_146.eq_2, if_pos (by rw [nj_l_le (by omega) (by omega)]; omega)]
    rfl
  | d + 1, i, c, fu + 1, h, h2 => by
    rw [R_cut_146.eq_2, if_neg (by rw [nj_l_le (by omega) (by omega)]; omega), inb_nj (by omega), gd_t (decide_eq_true (by omega)), ix_nj (by omega), vb_e, nj_l_add]
    unfold R_cut_173
    simp only [cmp0, vb_e, nj_add_l]
    have e : kyL (aL m 7) x4 (d + 1) i c = kyL (aL m 7) x4 d (i + 1) (if aL m 7 i = x4 then 20 + i else c) := rfl
    rw [e]
    by_cases z : aL m 7 i = x4
    · rw [if_pos z, if_pos z]
      exact R_cut_146_e d (i + 1) (20 + i) fu (by omega) (by omega)
    · rw [if_neg z, if_neg z]
      exact R_cut_146_e d (i + 1) c fu (by omega) (by omega)
theorem kyL_no {ky : Nat → Int64} {x : Int64} : ∀ (d i c : Nat), (∀ h, i ≤ h → h < i + d → ¬ ky h = x) → kyL ky x d i c = c
  | 0, _, _, _ => rfl
  | d + 1, i, c, hn => by
    show kyL ky x d (i + 1) (if ky i = x then 20 + i else c) = c
    rw [if_neg (hn i (Nat.le_refl _) (by omega))]
    exact kyL_no d (i + 1) c (fun h h1 h2 => hn h (by omega) (by omega))
/-- the first hit and the last one are one, where keys differ -/
theorem wk_ky {wd ky : Nat → Int64} {x y : Int64} : ∀ (d i c : Nat), (∀ h, i ≤ h → h < i + d → (wd h = y) = (ky h = x)) → (∀ h k, h < i + d → k < i + d → ky h = x → ky k = x → h = k) → (wkS wd y d i = 2 ∧ kyL ky x d i c = c) ∨ (wkS wd y d i = kyL ky x d i c ∧ 20 ≤ wkS wd y d i)
  | 0, _, _, _, _ => Or.inl ⟨rfl, rfl⟩
  | d + 1, i, c, h1, h2 => by
    have e1 : wkS wd y (d + 1) i = if wd i = y then 20 + i else wkS wd y d (i + 1) := rfl
    have e2 : kyL ky x (d + 1) i c = kyL ky x d (i + 1) (if ky i = x then 20 + i else c) := rfl
    rw [e1, e2]
    by_cases z : ky i = x
    · right
      rw [if_pos ((h1 i (Nat.le_refl _) (by omega)).mpr z), if_pos z, kyL_no d (i + 1) (20 + i) (fun h q1 q2 q3 => by
        have := h2 h i (by omega) (by omega) q3 z
        omega)]
      exact ⟨rfl, by omega⟩
    · rw [if_neg (fun w => z ((h1 i (Nat.le_refl _) (by omega)).mp w)), if_neg z]
      exact wk_ky d (i + 1) c (fun h q1 q2 => h1 h (by omega) (by omega)) (fun h k q1 q2 => h2 h k (by omega) (by omega))
