/-! Layer C: the words; kinds of words alike -/
def wdL : List (List Nat) := [[12, 5, 1, 19, 20], [25, 5, 1, 18, 19], [20, 18, 1, 4, 5], [20, 15, 23, 14], [23, 8, 15], [20, 1, 19, 11], [23, 5, 5, 11, 4, 1, 25], [8, 1, 12, 6], [23, 15, 18, 11, 5, 4], [23, 5, 5, 11], [23, 5, 20], [18, 1, 20, 5], [2, 9, 14, 4, 19], [15, 22, 5, 18], [3, 12, 1, 19, 19], [3, 8, 15, 15, 19, 5], [12, 15, 1, 4], [5, 24, 20, 18, 1], [18, 15, 21, 14, 4], [19, 20, 18, 9, 11, 5], [13, 1, 18, 7, 9, 14], [1, 23, 1, 18, 4], [22, 1, 18, 25], [15, 18, 4, 5, 18], [1, 7, 18, 5, 5], [6, 9, 18, 13], [6, 18, 15, 13], [9, 6], [20, 1, 19, 11, 19], [6, 15, 12, 12, 15, 23, 19], [16, 12, 21, 19], [5, 1, 3, 8], [13, 15, 19, 20], [8, 9, 7, 8, 5, 19, 20], [2, 1, 18, 19], [9, 19], [15, 18], [1, 14, 4], [14, 15, 20], [20, 9, 3, 11, 5, 20]]
def wdF (h i : Nat) : Nat := (wdL.getD h []).getD i 0
def wdN (h : Nat) : Nat := (wdL.getD h []).length
def pmI (k : Nat) : Nat := [21, 22, 23, 24, 25, 26, 12, 27, 13, 14, 28, 20, 29, 30, 15, 31, 32, 33, 16, 17, 34, 18, 19, 35, 36, 37, 38, 39, 0, 1, 2, 3, 4, 5, 6, 7, 8, 9, 10, 11].getD k 0
/-- what both sides know of the words -/
def KyOk (wd ky : Nat → Int64) : Prop := ∀ h, h < 40 → wd h = nl (cdN 32 (wdF h) (wdN h)) ∧ ky (pmW h) = nl (cdN 27 (wdF h) (wdN h))
theorem wd_Lt : ∀ h, h < 40 → wdN h ≤ 7 ∧ ∀ i, i < 7 → i < wdN h → 1 ≤ wdF h i ∧ wdF h i ≤ 26 := by decide +kernel
theorem wd_lt {h : Nat} (hh : h < 40) : Lt (wdF h) (wdN h) := fun i hi => (wd_Lt h hh).2 i (by have := (wd_Lt h hh).1; omega) hi
theorem wd_dif : ∀ h, h < 40 → ∀ k, k < 40 → cdN 32 (wdF h) (wdN h) = cdN 32 (wdF k) (wdN k) → h = k := by decide +kernel
theorem pm_lt : ∀ h, h < 40 → pmW h < 40 ∧ pmI (pmW h) = h := by decide +kernel
theorem pm_inv : ∀ k, k < 40 → pmI k < 40 ∧ pmW (pmI k) = k := by decide +kernel
theorem wkS_no {wd : Nat → Int64} {y : Int64} : ∀ (d i : Nat), (∀ h, i ≤ h → h < i + d → ¬ wd h = y) → wkS wd y d i = 2
  | 0, _, _ => rfl
  | d + 1, i, hn => by
    show (if wd i = y then 20 + i else wkS wd y d (i + 1)) = 2
    rw [if_neg (hn i (Nat.le_refl _) (by omega))]
    exact wkS_no d (i + 1) (fun h h1 h2 => hn h (by omega) (by omega))
theorem wkS_hit {wd : Nat → Int64} {y : Int64} {g : Nat} : ∀ (d i : Nat), i ≤ g → g < i + d → wd g = y → (∀ h, i ≤ h → h < i + d → wd h = y → h = g) → wkS wd y d i = 20 + g
  | 0, i, h1, h2, _, _ => by omega
  | d + 1, i, h1, h2, h3, hn => by
    show (if wd i = y then 20 + i else wkS wd y d (i + 1)) = 20 + g
    by_cases z : wd i = y
    · rw [if_pos z, hn i (Nat.le_refl _) (by omega) z]
    · rw [if_neg z]
      have : i ≠ g := fun e => z (e ▸ h3)
      exact wkS_hit d (i + 1) (by omega) (by omega) h3 (fun h q1 q2 => hn h (by omega) (by omega))
theorem kyL_hit {ky : Nat → Int64} {x : Int64} {g : Nat} : ∀ (d i c : Nat), i ≤ g → g < i + d → ky g = x → (∀ h, i ≤ h → h < i + d → ky h = x → h = g) → kyL ky x d i c = 20 + g
  | 0, i, c, h1, h2, _, _ => by omega
  | d + 1, i, c, h1, h2, h3, hn => by
    show kyL ky x d (i + 1) (if ky i = x then 20 + i else c) = 20 + g
    by_cases z : i = g
    · rw [if_pos (z ▸ h3), kyL_no d (i + 1) (20 + i) (fun h q1 q2 q3 => by
        have := hn h (by omega) (by omega) q3
        omega), z]
    · exact kyL_hit d (i + 1) _ (by omega) (by omega) h3 (fun h q1 q2 => hn h (by omega) (by omega))
/-- a word's kind is the same on both sides -/
theorem word_e {wd ky : Nat → Int64} (hk : KyOk wd ky) {f : Nat → Nat} {k : Nat} (hf : Lt f k) (h8 : k ≤ 8) : (if k ≤ 7 then kyL ky (nl (cdN 27 f k)) 40 0 1 else 1) = kM (wkS wd (nl (cdN 32 f k)) 40 0) := by
  have b0 := cdN_8 hf h8
  have hit : ∀ h, h < 40 → (wd h = nl (cdN 32 f k)) = (cdN 32 (wdF h) (wdN h) = cdN 32 f k) := fun h hh => by
    have b1 := cdN_8 (wd_lt hh) (by have := (wd_Lt h hh).1; omega)
    rw [(hk h hh).1]
    exact nl_inj (by omega) (by omega)
  have hit2 : ∀ h, h < 40 → (ky (pmW h) = nl (cdN 27 f k)) = (cdN 32 (wdF h) (wdN h) = cdN 32 f k) := fun h hh => by
    have b1 := cdN_8 (wd_lt hh) (by have := (wd_Lt h hh).1; omega)
    rw [(hk h hh).2, cdN_both (wd_lt hh) hf]
    exact nl_inj (by omega) (by omega)
  by_cases ex : ∃ h, h < 40 ∧ cdN 32 (wdF h) (wdN h) = cdN 32 f k
  · obtain ⟨h, hh, e⟩ := ex
    have e7 : k ≤ 7 := by
      have := (cdN_inj (by omega) _ _ (wd_lt hh) hf e).1
      have := (wd_Lt h hh).1
      omega
    rw [if_pos e7, wkS_hit (g := h) 40 0 (by omega) (by omega) ((hit h hh).mpr e) (fun h' _ q2 q3 => wd_dif h' (by omega) h hh (((hit h' (by omega)).mp q3).trans e.symm)),
      kyL_hit (g := pmW h) 40 0 1 (by omega) (by have := (pm_lt h hh).1; omega) ((hit2 h hh).mpr e) (fun h' _ q2 q3 => by
        have q4 := pm_inv h' (by omega)
        have q5 := (hit2 (pmI h') q4.1).mp (by rw [q4.2]; exact q3)
        have q6 := wd_dif (pmI h') q4.1 h hh (q5.trans e.symm)
        rw [← q6, q4.2])]
    unfold kM
    rw [if_neg (by omega), if_neg (by omega), show 20 + h - 20 = h by omega]
  · have w : wkS wd (nl (cdN 32 f k)) 40 0 = 2 := wkS_no 40 0 (fun h _ q2 q3 => ex ⟨h, by omega, (hit h (by omega)).mp q3⟩)
    rw [w]
    by_cases e7 : k ≤ 7
    · rw [if_pos e7, kyL_no 40 0 1 (fun h _ q2 q3 => by
        have q4 := pm_inv h (by omega)
        exact ex ⟨pmI h, q4.1, (hit2 _ q4.1).mp (by rw [q4.2]; exact q3)⟩)]
      rfl
    · rw [if_neg e7]
      rfl
