/-! Layer C: the class's gather, remember, divide -/
/-- the TASKS of a set, those below n -/
def tkL (x : Nat) : Nat → List Nat
  | 0 => []
  | n + 1 => if (x >>> n) % 2 = 1 then tkL x n ++ [n] else tkL x n
theorem popN_s (x n : Nat) : popN x (n + 1) = popN x n + (x >>> n) % 2 := rfl
theorem tkL_len {x : Nat} : ∀ n, (tkL x n).length = popN x n
  | 0 => rfl
  | n + 1 => by
    have ih := tkL_len (x := x) n
    have e : tkL x (n + 1) = if (x >>> n) % 2 = 1 then tkL x n ++ [n] else tkL x n := rfl
    rw [e, popN_s]
    by_cases z : (x >>> n) % 2 = 1
    · rw [if_pos z, List.length_append, ih, z]
      rfl
    · rw [if_neg z, ih]
      omega
theorem popN_mono {x j : Nat} : ∀ n, j ≤ n → popN x j ≤ popN x n
  | 0, h => by rw [show j = 0 by omega]; exact Nat.le_refl _
  | n + 1, h => by
    by_cases z : j = n + 1
    · rw [z]
      exact Nat.le_refl _
    · have := popN_mono (x := x) n (show j ≤ n by omega)
      rw [popN_s]
      omega
theorem tkL_same {x j : Nat} : ∀ n, j ≤ n → popN x n = popN x j → tkL x n = tkL x j
  | 0, h, _ => by rw [show j = 0 by omega]
  | n + 1, h, h2 => by
    by_cases z : j = n + 1
    · rw [z]
    · have h3 := popN_mono (x := x) n (show j ≤ n by omega)
      rw [popN_s] at h2
      have e : tkL x (n + 1) = if (x >>> n) % 2 = 1 then tkL x n ++ [n] else tkL x n := rfl
      rw [e, if_neg (by omega)]
      exact tkL_same n (by omega) (by omega)
theorem tkL_lt {x : Nat} : ∀ n i, i < popN x n → (tkL x n).getD i 0 < n
  | 0, i, h => absurd h (Nat.not_lt_zero i)
  | n + 1, i, h => by
    have ih := tkL_lt (x := x) n i
    have hl := tkL_len (x := x) n
    have e : tkL x (n + 1) = if (x >>> n) % 2 = 1 then tkL x n ++ [n] else tkL x n := rfl
    rw [popN_s] at h
    rw [e]
    by_cases z : (x >>> n) % 2 = 1
    · rw [if_pos z, List.getD_eq_getElem?_getD, List.getElem?_append]
      by_cases y : i < (tkL x n).length
      · rw [if_pos y, ← List.getD_eq_getElem?_getD]
        have := ih (by omega)
        omega
      · rw [if_neg y, show i - (tkL x n).length = 0 by omega]
        show n < n + 1
        omega
    · rw [if_neg z]
      have := ih (by omega)
      omega
theorem tkL_app {x n i : Nat} (h : i ≤ popN x n) : (tkL x n ++ [n]).getD i 0 = if i = popN x n then n else (tkL x n).getD i 0 := by
  have hl := tkL_len (x := x) n
  rw [List.getD_eq_getElem?_getD, List.getElem?_append]
  by_cases y : i = popN x n
  · rw [if_pos y, if_neg (by omega), show i - (tkL x n).length = 0 by omega]
    rfl
  · rw [if_neg y, if_pos (by omega), ← List.getD_eq_getElem?_getD]
theorem popN_pos {x : Nat} (h0 : 0 < x) (h : x < 65536) : 0 < popN x 16 := by
  apply Nat.pos_of_ne_zero
  intro hp
  have : x = 0 := by
    apply Nat.eq_of_testBit_eq
    intro i
    rw [Nat.zero_testBit]
    by_cases z : i < 16
    · have h1 := popN_mono (x := x) 16 (show i + 1 ≤ 16 by omega)
      rw [popN_s, bt_e] at h1
      cases c : x.testBit i with
      | false => rfl
      | true =>
        rw [c] at h1
        have : Bool.toNat true = 1 := rfl
        omega
    · exact Nat.testBit_lt_two_pow (Nat.lt_of_lt_of_le (show x < 2 ^ 16 by omega) (Nat.pow_le_pow_right (by omega) (by omega)))
  omega
theorem P_gather_7_e {x : Nat} (hx : x < 65536) (h7 : popN x 16 ≤ 7) : ∀ (k j fu : Nat) (m : Mem), j + k = 16 → k < fu → mI m 901 41 = nj (popN x j) → (∀ i, i < popN x j → aI m 46 i = nj ((tkL x j).getD i 0) ∧ aI m 47 i = nj 0) →
    ∃ m', P_Parting_gather_7 fu (nj x) (nj j) m = some ((), m') ∧ (Ch [901] [46, 47] nil m m' ∧ mC m' = mC m ∧ mS m' = mS m) ∧ mI m' 901 41 = nj (popN x 16) ∧ ∀ i, i < popN x 16 → aI m' 46 i = nj ((tkL x 16).getD i 0) ∧ aI m' 47 i = nj 0
  | 0, j, fu + 1, m, h1, _, h3, h4 => by
    rw [P_Parting_gather_7.eq_2, if_pos (by rw [nj_l_le (by omega) (by omega)]; omega)]
    have e : j = 16 := by omega
    rw [e] at h3 h4
    exact ⟨m, rfl, ⟨Ch.rfl, rfl, rfl⟩, h3, h4⟩
  | k + 1, j, fu + 1, m, h1, h2, h3, h4 => by
    have hm := popN_mono (x := x) 16 (show j ≤ 16 by omega)
    rw [P_Parting_gather_7.eq_2, if_neg (by rw [nj_l_le (by omega) (by omega)]; omega), h3]
    by_cases y : 7 ≤ popN x j
    · rw [if_pos (by rw [nj_l_le (by omega) (by omega)]; exact y)]
      have e : popN x 16 = popN x j := by omega
      rw [e, tkL_same 16 (by omega) e]
      exact ⟨m, rfl, ⟨Ch.rfl, rfl, rfl⟩, h3, h4⟩
    · rw [if_neg (by rw [nj_l_le (by omega) (by omega)]; exact y), nj_bit (by omega) (by omega)]
      have e1 : (nj ((x >>> j) % 2) = 1) = ((x >>> j) % 2 = 1) := nj_eq_l (by omega) (by omega)
      simp only [e1]
      unfold P_Parting_gather_61
      have e : tkL x (j + 1) = if (x >>> j) % 2 = 1 then tkL x j ++ [j] else tkL x j := rfl
      by_cases z : (x >>> j) % 2 = 1
      · rw [if_pos z, inb_nj (by omega), gd_t (decide_eq_true (by omega)), vb_e, k_mI_wI, h3, inb_nj (by omega), gd_t (decide_eq_true (by omega)), vb_e, vb_e, vb_e, k_mI_wI, k_mI_wI, h3, nj_add_l, nj_add_l, ix_nj (by omega)]
        obtain ⟨m', i1, i2, i3, i4⟩ := P_gather_7_e hx h7 k (j + 1) fu (sI (wI (wI m 46 (popN x j) (nj j)) 47 (popN x j) 0) 901 41 (nj (popN x j + 1))) (by omega) (by omega) (by rw [k_mI_sI_e, up1_ap, if_pos rfl, popN_s, z]) (fun i hi => by
          rw [popN_s, z] at hi
          rw [k_aI_sI, k_aI_wI (by omega), k_aI_wI_e, up1_ap, k_aI_wI_e, up1_ap, k_aI_wI (by omega), e, if_pos z, tkL_app (by omega)]
          by_cases w : i = popN x j
          · rw [if_pos w, if_pos w, if_pos w]
            exact ⟨rfl, rfl⟩
          · rw [if_neg w, if_neg w, if_neg w]
            exact h4 i (by omega))
        exact ⟨m', i1, ⟨Ch.trans (((Ch.rfl.wI (Or.inl (by decide))).wI (Or.inl (by decide))).sI (by decide)) i2.1, i2.2.1.trans (by simp only [k_aI_wI_e, k_aI_wI, k_aI_wL, k_aI_wR, k_aI_sI, k_aI_sL, k_aI_sR, k_aI_nw, k_aL_wL_e, k_aL_wL, k_aL_wI, k_aL_wR, k_aL_sI, k_aL_sL, k_aL_sR, k_aL_nw, k_aR_wR_e, k_aR_wR, k_aR_wI, k_aR_wL, k_aR_sI, k_aR_sL, k_aR_sR, k_aR_nw, k_mI_sI_e, k_mI_sI, k_mI_wI, k_mI_wL, k_mI_wR, k_mI_sL, k_mI_sR, k_mI_nw, k_mL_sL_e, k_mL_sL, k_mL_wI, k_mL_wL, k_mL_wR, k_mL_sI, k_mL_sR, k_mL_nw, k_mR_sR_e, k_mR_sR, k_mR_wI, k_mR_wL, k_mR_wR, k_mR_sI, k_mR_sL, k_mR_nw, k_mT_wI, k_mT_wL, k_mT_wR, k_mT_sI, k_mT_sL, k_mT_sR, k_mT_nw, k_mN_wI, k_mN_wL, k_mN_wR, k_mN_sI, k_mN_sL, k_mN_sR, k_mN_nw, k_mC_wI, k_mC_wL, k_mC_wR, k_mC_sI, k_mC_sL, k_mC_sR, k_mC_nw, k_mS_wI, k_mS_wL, k_mS_wR, k_mS_sI, k_mS_sL, k_mS_sR, k_mS_nw, k_zF_1, k_zF_3, k_zF_11, k_zF_32, k_zF_36, k_zA_1, k_zA_3, k_zA_11, k_zA_32, k_zA_36, k_mT_fil, k_mN_fil, k_mI_fil, k_mL_fil, k_mR_fil, k_aL_fil, k_aR_fil, k_mC_fil, k_mS_fil, k_aI_fil_e, k_aI_fil]), i2.2.2.trans (by simp only [k_aI_wI_e, k_aI_wI, k_aI_wL, k_aI_wR, k_aI_sI, k_aI_sL, k_aI_sR, k_aI_nw, k_aL_wL_e, k_aL_wL, k_aL_wI, k_aL_wR, k_aL_sI, k_aL_sL, k_aL_sR, k_aL_nw, k_aR_wR_e, k_aR_wR, k_aR_wI, k_aR_wL, k_aR_sI, k_aR_sL, k_aR_sR, k_aR_nw, k_mI_sI_e, k_mI_sI, k_mI_wI, k_mI_wL, k_mI_wR, k_mI_sL, k_mI_sR, k_mI_nw, k_mL_sL_e, k_mL_sL, k_mL_wI, k_mL_wL, k_mL_wR, k_mL_sI, k_mL_sR, k_mL_nw, k_mR_sR_e, k_mR_sR, k_mR_wI, k_mR_wL, k_mR_wR, k_mR_sI, k_mR_sL, k_mR_nw, k_mT_wI, k_mT_wL, k_mT_wR, k_mT_sI, k_mT_sL, k_mT_sR, k_mT_nw, k_mN_wI, k_mN_wL, k_mN_wR, k_mN_sI, k_mN_sL, k_mN_sR, k_mN_nw, k_mC_wI, k_mC_wL, k_mC_wR, k_mC_sI, k_mC_sL, k_mC_sR, k_mC_nw, k_mS_wI, k_mS_wL, k_mS_wR, k_mS_sI, k_mS_sL, k_mS_sR, k_mS_nw, k_zF_1, k_zF_3, k_zF_11, k_zF_32, k_zF_36, k_zA_1, k_zA_3, k_zA_11, k_zA_32, k_zA_36, k_mT_fil, k_mN_fil, k_mI_fil, k_mL_fil, k_mR_fil, k_aL_fil, k_aR_fil, k_mC_fil, k_mS_fil, k_aI_fil_e, k_aI_fil])⟩, i3, i4⟩
      · rw [if_neg z, vb_e, nj_add_l]
        have e0 : popN x (j + 1) = popN x j := by rw [popN_s]; omega
        exact P_gather_7_e hx h7 k (j + 1) fu m (by omega) (by omega) (by rw [e0]; exact h3) (by rw [e0, e, if_neg z]; exact h4)
/-- the last of the first n that is task t -/
def rmI (mb : Nat → Nat) (t : Nat) : Nat → Option Nat
  | 0 => none
  | n + 1 => if mb n = t then some n else rmI mb t n
theorem rmI_lt {mb : Nat → Nat} {t : Nat} : ∀ n i, rmI mb t n = some i → i < n
  | 0, i, h => by cases h
  | n + 1, i, h => by
    have e : rmI mb t (n + 1) = if mb n = t then some n else rmI mb t n := rfl
    rw [e] at h
    by_cases z : mb n = t
    · rw [if_pos z] at h
      cases h
      omega
    · rw [if_neg z] at h
      have := rmI_lt n i h
      omega
def rmV (y : Int32) (f : Nat → Nat) : Option Nat → Int32
  | none => y
  | some i => nj (f i)
theorem P_remember_10_e {s : Nat} {mb o w : Nat → Nat} {m0 : Mem} (hs : s ≤ 7) (hmb : ∀ i, i < s → mb i < 16) (ho : ∀ i, i < s → o i < 7) : ∀ (k j fu : Nat) (m : Mem), j + k = s → k < fu → mI m 901 41 = nj s → (∀ i, i < s → aI m 46 i = nj (mb i) ∧ aI m 49 i = nj (o i) ∧ aI m 50 (o i) = nj (w i)) →
    (∀ t, aI m 44 t = rmV (aI m0 44 t) o (rmI mb t j) ∧ aI m 45 t = rmV (aI m0 45 t) w (rmI mb t j)) →
    ∃ m', P_Parting_remember_10 fu (nj j) m = some ((), m') ∧ (Ch [] [44, 45] nil m m' ∧ mC m' = mC m ∧ mS m' = mS m) ∧ mI m' 906 = mI m 906 ∧ ∀ t, aI m' 44 t = rmV (aI m0 44 t) o (rmI mb t s) ∧ aI m' 45 t = rmV (aI m0 45 t) w (rmI mb t s)
  | 0, j, fu + 1, m, h1, _, h3, h4, h5 => by
    rw [P_Parting_remember_10.eq_2, h3, if_pos (by rw [nj_le (by omega) (by omega)]; omega)]
    have e : j = s := by omega
    rw [e] at h5
    exact ⟨m, rfl, ⟨Ch.rfl, rfl, rfl⟩, rfl, h5⟩
  | k + 1, j, fu + 1, m, h1, h2, h3, h4, h5 => by
    have hj := h4 j (by omega)
    have hm := hmb j (by omega)
    have hoj := ho j (by omega)
    have g : ∀ {β : Type} (z : Option β), gd (inb (nj j) 7) z = z := fun z => by rw [inb_nj (by omega), gd_t (decide_eq_true (by omega))]
    have g2 : ∀ {β : Type} (z : Option β), gd (inb (nj (mb j)) 16) z = z := fun z => by rw [inb_nj (by omega), gd_t (decide_eq_true (by omega))]
    have g3 : ∀ {β : Type} (z : Option β), gd (inb (nj (o j)) 7) z = z := fun z => by rw [inb_nj (by omega), gd_t (decide_eq_true (by omega))]
    rw [P_Parting_remember_10.eq_2, h3, if_neg (by rw [nj_le (by omega) (by omega)]; omega), g, g, ix_nj (show j < 2147483648 by omega), hj.1, g2, vb_e, g, g, ix_nj (show mb j < 2147483648 by omega), hj.2.1, k_aI_wI (by omega), k_aI_wI (by omega), k_aI_wI (by omega), hj.2.1, g3, hj.1, g2, vb_e, vb_e, ix_nj (show o j < 2147483648 by omega), hj.2.2, nj_add_l, ix_nj (show mb j < 2147483648 by omega)]
    obtain ⟨m', i1, i2, i3, i4⟩ := P_remember_10_e (w := w) (m0 := m0) hs hmb ho k (j + 1) fu (wI (wI m 44 (mb j) (nj (o j))) 45 (mb j) (nj (w j))) (by omega) (by omega) (by rw [k_mI_wI, k_mI_wI]; exact h3) (by rw [k_aI_wI (by omega), k_aI_wI (by omega), k_aI_wI (by omega), k_aI_wI (by omega), k_aI_wI (by omega), k_aI_wI (by omega)]; exact h4) (fun t => by
      have e : rmI mb t (j + 1) = if mb j = t then some j else rmI mb t j := rfl
      rw [k_aI_wI (show 44 ≠ 45 by omega), k_aI_wI_e, up1_ap, k_aI_wI_e, up1_ap, k_aI_wI (show 45 ≠ 44 by omega), e]
      by_cases z : t = mb j
      · rw [if_pos z, if_pos z, if_pos z.symm]
        exact ⟨rfl, rfl⟩
      · rw [if_neg z, if_neg z, if_neg (fun y => z y.symm)]
        exact h5 t)
    exact ⟨m', i1, ⟨Ch.trans ((Ch.rfl.wI (Or.inl (by decide))).wI (Or.inl (by decide))) i2.1, i2.2.1.trans (by simp only [k_aI_wI_e, k_aI_wI, k_aI_wL, k_aI_wR, k_aI_sI, k_aI_sL, k_aI_sR, k_aI_nw, k_aL_wL_e, k_aL_wL, k_aL_wI, k_aL_wR, k_aL_sI, k_aL_sL, k_aL_sR, k_aL_nw, k_aR_wR_e, k_aR_wR, k_aR_wI, k_aR_wL, k_aR_sI, k_aR_sL, k_aR_sR, k_aR_nw, k_mI_sI_e, k_mI_sI, k_mI_wI, k_mI_wL, k_mI_wR, k_mI_sL, k_mI_sR, k_mI_nw, k_mL_sL_e, k_mL_sL, k_mL_wI, k_mL_wL, k_mL_wR, k_mL_sI, k_mL_sR, k_mL_nw, k_mR_sR_e, k_mR_sR, k_mR_wI, k_mR_wL, k_mR_wR, k_mR_sI, k_mR_sL, k_mR_nw, k_mT_wI, k_mT_wL, k_mT_wR, k_mT_sI, k_mT_sL, k_mT_sR, k_mT_nw, k_mN_wI, k_mN_wL, k_mN_wR, k_mN_sI, k_mN_sL, k_mN_sR, k_mN_nw, k_mC_wI, k_mC_wL, k_mC_wR, k_mC_sI, k_mC_sL, k_mC_sR, k_mC_nw, k_mS_wI, k_mS_wL, k_mS_wR, k_mS_sI, k_mS_sL, k_mS_sR, k_mS_nw, k_zF_1, k_zF_3, k_zF_11, k_zF_32, k_zF_36, k_zA_1, k_zA_3, k_zA_11, k_zA_32, k_zA_36, k_mT_fil, k_mN_fil, k_mI_fil, k_mL_fil, k_mR_fil, k_aL_fil, k_aR_fil, k_mC_fil, k_mS_fil, k_aI_fil_e, k_aI_fil]), i2.2.2.trans (by simp only [k_aI_wI_e, k_aI_wI, k_aI_wL, k_aI_wR, k_aI_sI, k_aI_sL, k_aI_sR, k_aI_nw, k_aL_wL_e, k_aL_wL, k_aL_wI, k_aL_wR, k_aL_sI, k_aL_sL, k_aL_sR, k_aL_nw, k_aR_wR_e, k_aR_wR, k_aR_wI, k_aR_wL, k_aR_sI, k_aR_sL, k_aR_sR, k_aR_nw, k_mI_sI_e, k_mI_sI, k_mI_wI, k_mI_wL, k_mI_wR, k_mI_sL, k_mI_sR, k_mI_nw, k_mL_sL_e, k_mL_sL, k_mL_wI, k_mL_wL, k_mL_wR, k_mL_sI, k_mL_sR, k_mL_nw, k_mR_sR_e, k_mR_sR, k_mR_wI, k_mR_wL, k_mR_wR, k_mR_sI, k_mR_sL, k_mR_nw, k_mT_wI, k_mT_wL, k_mT_wR, k_mT_sI, k_mT_sL, k_mT_sR, k_mT_nw, k_mN_wI, k_mN_wL, k_mN_wR, k_mN_sI, k_mN_sL, k_mN_sR, k_mN_nw, k_mC_wI, k_mC_wL, k_mC_wR, k_mC_sI, k_mC_sL, k_mC_sR, k_mC_nw, k_mS_wI, k_mS_wL, k_mS_wR, k_mS_sI, k_mS_sL, k_mS_sR, k_mS_nw, k_zF_1, k_zF_3, k_zF_11, k_zF_32, k_zF_36, k_zA_1, k_zA_3, k_zA_11, k_zA_32, k_zA_36, k_mT_fil, k_mN_fil, k_mI_fil, k_mL_fil, k_mR_fil, k_aL_fil, k_aR_fil, k_mC_fil, k_mS_fil, k_aI_fil_e, k_aI_fil])⟩, i3.trans (by rw [k_mI_wI, k_mI_wI]), i4⟩
/-- the members of a set -/
def mbX (x i : Nat) : Nat := (tkL x 16).getD i 0
/-- the best way to part the set x -/
def bsX (x : Nat) (tv : Nat → Nat) (ap : Nat → Nat → Bool) (d k : Nat) : BW := ways (popN x 16) (fun i => tv (mbX x i)) (fun a b => ap (mbX x a) (mbX x b)) d k 877 (List.replicate (popN x 16) 0) none
theorem P_divide_e {p : Mem} {x k d : Nat} {tv : Nat → Nat} {ap : Nat → Nat → Bool} (h0 : 0 < x) (hx : x < 65536) (h7 : popN x 16 ≤ 7) (hk : k < 100) (hd : d < 1000) (h60 : 51 ≤ mC p) (htv : ∀ t, tv t < 1000) (hp : ∀ t, t < 16 → aI p 42 t = nj (tv t) ∧ ∀ b, b < 16 → bI (aI p 43 t) b = ap t b) (h44 : mT p 44 = 32 ∧ mN p 44 = 16) (hN : PNs p) :
    ∃ p', P_Parting_divide (nj x) (nj k) (nj d) p = some (match bsX x tv ap d k with
      | none => -2
      | some b => nj b.1, p') ∧ (Ch [901, 906, 907] [44, 45, 46, 47, 48, 49, 50] nil p p' ∧ mC p' = mC p ∧ mS p' = mS p) ∧
      (match bsX x tv ap d k with
      | none => aI p' 44 = aI p 44 ∧ aI p' 45 = aI p 45
      | some b => ∀ t, t < 16 → aI p' 44 t = rmV (-1) b.2.2.1 (rmI (mbX x) t (popN x 16)) ∧ aI p' 45 t = rmV (aI p 45 t) b.2.2.2 (rmI (mbX x) t (popN x 16))) := by
  have hs0 := popN_pos h0 hx
  unfold P_Parting_divide P_Parting_gather
  rw [vb_e]
  obtain ⟨m1, a1, a2, a3, a4⟩ := P_gather_7_e hx h7 16 0 FU (sI p 901 41 0) (by omega) (by unfold FU; omega) (by rw [k_mI_sI_e, up1_ap, if_pos rfl]; rfl) (fun i hi => absurd hi (Nat.not_lt_zero i))
  have c1 : Ch [901, 906, 907] [44, 45, 46, 47, 48, 49, 50] nil p m1 := Ch.trans (Ch.rfl.sI (by decide)) (a2.1.mono (by decide) (by decide) (fun _ z => z))
  have k1 : mC m1 = mC p ∧ mS m1 = mS p := ⟨a2.2.1.trans (by simp only [k_aI_wI_e, k_aI_wI, k_aI_wL, k_aI_wR, k_aI_sI, k_aI_sL, k_aI_sR, k_aI_nw, k_aL_wL_e, k_aL_wL, k_aL_wI, k_aL_wR, k_aL_sI, k_aL_sL, k_aL_sR, k_aL_nw, k_aR_wR_e, k_aR_wR, k_aR_wI, k_aR_wL, k_aR_sI, k_aR_sL, k_aR_sR, k_aR_nw, k_mI_sI_e, k_mI_sI, k_mI_wI, k_mI_wL, k_mI_wR, k_mI_sL, k_mI_sR, k_mI_nw, k_mL_sL_e, k_mL_sL, k_mL_wI, k_mL_wL, k_mL_wR, k_mL_sI, k_mL_sR, k_mL_nw, k_mR_sR_e, k_mR_sR, k_mR_wI, k_mR_wL, k_mR_wR, k_mR_sI, k_mR_sL, k_mR_nw, k_mT_wI, k_mT_wL, k_mT_wR, k_mT_sI, k_mT_sL, k_mT_sR, k_mT_nw, k_mN_wI, k_mN_wL, k_mN_wR, k_mN_sI, k_mN_sL, k_mN_sR, k_mN_nw, k_mC_wI, k_mC_wL, k_mC_wR, k_mC_sI, k_mC_sL, k_mC_sR, k_mC_nw, k_mS_wI, k_mS_wL, k_mS_wR, k_mS_sI, k_mS_sL, k_mS_sR, k_mS_nw, k_zF_1, k_zF_3, k_zF_11, k_zF_32, k_zF_36, k_zA_1, k_zA_3, k_zA_11, k_zA_32, k_zA_36, k_mT_fil, k_mN_fil, k_mI_fil, k_mL_fil, k_mR_fil, k_aL_fil, k_aR_fil, k_mC_fil, k_mS_fil, k_aI_fil_e, k_aI_fil]), a2.2.2.trans (by simp only [k_aI_wI_e, k_aI_wI, k_aI_wL, k_aI_wR, k_aI_sI, k_aI_sL, k_aI_sR, k_aI_nw, k_aL_wL_e, k_aL_wL, k_aL_wI, k_aL_wR, k_aL_sI, k_aL_sL, k_aL_sR, k_aL_nw, k_aR_wR_e, k_aR_wR, k_aR_wI, k_aR_wL, k_aR_sI, k_aR_sL, k_aR_sR, k_aR_nw, k_mI_sI_e, k_mI_sI, k_mI_wI, k_mI_wL, k_mI_wR, k_mI_sL, k_mI_sR, k_mI_nw, k_mL_sL_e, k_mL_sL, k_mL_wI, k_mL_wL, k_mL_wR, k_mL_sI, k_mL_sR, k_mL_nw, k_mR_sR_e, k_mR_sR, k_mR_wI, k_mR_wL, k_mR_wR, k_mR_sI, k_mR_sL, k_mR_nw, k_mT_wI, k_mT_wL, k_mT_wR, k_mT_sI, k_mT_sL, k_mT_sR, k_mT_nw, k_mN_wI, k_mN_wL, k_mN_wR, k_mN_sI, k_mN_sL, k_mN_sR, k_mN_nw, k_mC_wI, k_mC_wL, k_mC_wR, k_mC_sI, k_mC_sL, k_mC_sR, k_mC_nw, k_mS_wI, k_mS_wL, k_mS_wR, k_mS_sI, k_mS_sL, k_mS_sR, k_mS_nw, k_zF_1, k_zF_3, k_zF_11, k_zF_32, k_zF_36, k_zA_1, k_zA_3, k_zA_11, k_zA_32, k_zA_36, k_mT_fil, k_mN_fil, k_mI_fil, k_mL_fil, k_mR_fil, k_aL_fil, k_aR_fil, k_mC_fil, k_mS_fil, k_aI_fil_e, k_aI_fil])⟩
  have d1 := (a2.1.2.2.2 44 (by decide) (fun z => z) (by rw [k_mC_sI]; omega)).1
  have d2 := (a2.1.2.2.2 45 (by decide) (fun z => z) (by rw [k_mC_sI]; omega)).1
  rw [k_aI_sI] at d1 d2
  have a1' : P_Parting_gather_7 FU (nj x) 0 (sI p 901 41 0) = some ((), m1) := a1
  rw [a1', bn_s, vb_e, k_mI_sI (by omega), a3, if_neg (by rw [nj_le_l (by omega) (by omega)]; omega)]
  unfold P_Parting_divide_22
  have hPR : PR (sI m1 906 41 (-1)) (popN x 16) (List.replicate (popN x 16) 0) (mbX x) tv ap := by
    refine ⟨h7, by rw [k_mI_sI (by omega)]; exact a3, fun i hi => ?_, fun t ht => ?_⟩
    · have e0 : (List.replicate (popN x 16) 0).getD i 0 = 0 := by
        rw [List.getD_eq_getElem?_getD, List.getElem?_replicate, if_pos hi]
        rfl
      rw [e0, k_aI_sI]
      exact ⟨tkL_lt 16 i hi, (a4 i hi).1, Nat.zero_le _, (a4 i hi).2⟩
    · rw [k_aI_sI, (c1.2.2.2 42 (by decide) (fun z => z) (by omega)).1, (c1.2.2.2 43 (by decide) (fun z => z) (by omega)).1]
      exact ⟨htv t, hp t ht⟩
  have hN1 : PNs (sI m1 906 41 (-1)) := by
    unfold PNs
    rw [k_mN_sI, (c1.2.1 47 (by omega)).2, (c1.2.1 48 (by omega)).2, (c1.2.1 49 (by omega)).2, (c1.2.1 50 (by omega)).2]
    exact hN
  obtain ⟨m2, L', b1, b2, b3, b4⟩ := P_divide_27_e (k := k) hd hk (fun i => htv _) hs0 877 0 FU _ none (sI m1 906 41 (-1)) (ends_all _ (by omega) hs0) (by omega) (by unfold FU; omega) hPR (by rw [k_mC_sI]; omega) hN1 (by show mI (sI m1 906 41 (-1)) 906 41 = -1; rw [k_mI_sI_e, up1_ap, if_pos rfl])
  rw [show (nj 0) = (0 : Int32) from rfl] at b1
  rw [b1]
  have c2 : Ch [901, 906, 907] [44, 45, 46, 47, 48, 49, 50] nil p m2 := Ch.trans (c1.sI (by decide)) (b2.1.mono (by decide) (by decide) (fun _ z => z))
  have k2 : mC m2 = mC p ∧ mS m2 = mS p := ⟨b2.2.1.trans ((by simp only [k_aI_wI_e, k_aI_wI, k_aI_wL, k_aI_wR, k_aI_sI, k_aI_sL, k_aI_sR, k_aI_nw, k_aL_wL_e, k_aL_wL, k_aL_wI, k_aL_wR, k_aL_sI, k_aL_sL, k_aL_sR, k_aL_nw, k_aR_wR_e, k_aR_wR, k_aR_wI, k_aR_wL, k_aR_sI, k_aR_sL, k_aR_sR, k_aR_nw, k_mI_sI_e, k_mI_sI, k_mI_wI, k_mI_wL, k_mI_wR, k_mI_sL, k_mI_sR, k_mI_nw, k_mL_sL_e, k_mL_sL, k_mL_wI, k_mL_wL, k_mL_wR, k_mL_sI, k_mL_sR, k_mL_nw, k_mR_sR_e, k_mR_sR, k_mR_wI, k_mR_wL, k_mR_wR, k_mR_sI, k_mR_sL, k_mR_nw, k_mT_wI, k_mT_wL, k_mT_wR, k_mT_sI, k_mT_sL, k_mT_sR, k_mT_nw, k_mN_wI, k_mN_wL, k_mN_wR, k_mN_sI, k_mN_sL, k_mN_sR, k_mN_nw, k_mC_wI, k_mC_wL, k_mC_wR, k_mC_sI, k_mC_sL, k_mC_sR, k_mC_nw, k_mS_wI, k_mS_wL, k_mS_wR, k_mS_sI, k_mS_sL, k_mS_sR, k_mS_nw, k_zF_1, k_zF_3, k_zF_11, k_zF_32, k_zF_36, k_zA_1, k_zA_3, k_zA_11, k_zA_32, k_zA_36, k_mT_fil, k_mN_fil, k_mI_fil, k_mL_fil, k_mR_fil, k_aL_fil, k_aR_fil, k_mC_fil, k_mS_fil, k_aI_fil_e, k_aI_fil] : mC (sI m1 906 41 (-1)) = mC m1).trans k1.1), b2.2.2.trans ((by simp only [k_aI_wI_e, k_aI_wI, k_aI_wL, k_aI_wR, k_aI_sI, k_aI_sL, k_aI_sR, k_aI_nw, k_aL_wL_e, k_aL_wL, k_aL_wI, k_aL_wR, k_aL_sI, k_aL_sL, k_aL_sR, k_aL_nw, k_aR_wR_e, k_aR_wR, k_aR_wI, k_aR_wL, k_aR_sI, k_aR_sL, k_aR_sR, k_aR_nw, k_mI_sI_e, k_mI_sI, k_mI_wI, k_mI_wL, k_mI_wR, k_mI_sL, k_mI_sR, k_mI_nw, k_mL_sL_e, k_mL_sL, k_mL_wI, k_mL_wL, k_mL_wR, k_mL_sI, k_mL_sR, k_mL_nw, k_mR_sR_e, k_mR_sR, k_mR_wI, k_mR_wL, k_mR_wR, k_mR_sI, k_mR_sL, k_mR_nw, k_mT_wI, k_mT_wL, k_mT_wR, k_mT_sI, k_mT_sL, k_mT_sR, k_mT_nw, k_mN_wI, k_mN_wL, k_mN_wR, k_mN_sI, k_mN_sL, k_mN_sR, k_mN_nw, k_mC_wI, k_mC_wL, k_mC_wR, k_mC_sI, k_mC_sL, k_mC_sR, k_mC_nw, k_mS_wI, k_mS_wL, k_mS_wR, k_mS_sI, k_mS_sL, k_mS_sR, k_mS_nw, k_zF_1, k_zF_3, k_zF_11, k_zF_32, k_zF_36, k_zA_1, k_zA_3, k_zA_11, k_zA_32, k_zA_36, k_mT_fil, k_mN_fil, k_mI_fil, k_mL_fil, k_mR_fil, k_aL_fil, k_aR_fil, k_mC_fil, k_mS_fil, k_aI_fil_e, k_aI_fil] : mS (sI m1 906 41 (-1)) = mS m1).trans k1.2)⟩
  have f1 : aI m2 44 = aI p 44 := ((b2.1.2.2.2 44 (by decide) (fun z => z) (by rw [k_mC_sI]; omega)).1).trans (by rw [k_aI_sI]; exact d1)
  have f2 : aI m2 45 = aI p 45 := ((b2.1.2.2.2 45 (by decide) (fun z => z) (by rw [k_mC_sI]; omega)).1).trans (by rw [k_aI_sI]; exact d2)
  have b4' : BR m2 (popN x 16) (bsX x tv ap d k) := b4
  unfold P_Parting_divide_58
  cases hB : bsX x tv ap d k with
  | none =>
    rw [hB] at b4'
    rw [if_pos (show mI m2 906 41 = -1 from b4')]
    exact ⟨m2, rfl, ⟨c2, k2⟩, f1, f2⟩
  | some b =>
    rw [hB] at b4'
    obtain ⟨e1, e2, -, -, e5⟩ := b4'
    rw [if_neg (by rw [e2, nj_ne_m1 (by omega)]; exact fun z => z)]
    unfold P_Parting_remember
    rw [J_fill_e (n := 16) (by omega) (by rw [(c2.2.1 44 (by omega)).1]; exact h44.1) (by rw [(c2.2.1 44 (by omega)).2]; exact h44.2), bn_s]
    obtain ⟨m3, i1, i2, i3, i4⟩ := P_remember_10_e (s := popN x 16) (mb := mbX x) (o := b.2.2.1) (w := b.2.2.2) (m0 := fil m2 44 0 16 (-1)) h7 (fun i hi => tkL_lt 16 i hi) (fun i hi => (e5 i hi).1) (popN x 16) 0 FU (fil m2 44 0 16 (-1)) (by omega) (by unfold FU; omega) b3.2.1 (fun i hi => by
      rw [k_aI_fil (by omega), k_aI_fil (by omega), k_aI_fil (by omega)]
      exact ⟨(b3.2.2.1 i hi).2.1, (e5 i hi).2⟩) (fun t => ⟨rfl, rfl⟩)
    rw [show (nj 0) = (0 : Int32) from rfl] at i1
    rw [i1, bn_s]
    have g906 : mI m3 906 41 = nj b.1 := by
      rw [i3]
      exact e2
    refine ⟨m3, by rw [g906], ⟨Ch.trans (ch_fil c2 (Or.inl (by decide))) (i2.1.mono (by decide) (by decide) (fun _ z => z)), ?_, ?_⟩, fun t ht => ?_⟩
    · exact i2.2.1.trans ((id rfl : mC (fil m2 44 0 16 (-1)) = mC m2).trans k2.1)
    · exact i2.2.2.trans ((id rfl : mS (fil m2 44 0 16 (-1)) = mS m2).trans k2.2)
    · have z := i4 t
      rw [k_aI_fil_e, k_aI_fil (by omega), f2] at z
      have z1 : (fun i => if 0 ≤ i ∧ i < 16 then (-1 : Int32) else aI m2 44 i) t = -1 := if_pos ⟨Nat.zero_le _, ht⟩
      rw [z1] at z
      exact z
