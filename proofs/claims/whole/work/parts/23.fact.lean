/-! Layer C: making a FACT, on both sides -/
theorem Mem.ext' {m m' : Mem} (h1 : mT m = mT m') (h2 : mN m = mN m') (h3 : mI m = mI m') (h4 : mL m = mL m') (h5 : mR m = mR m') (h6 : aI m = aI m') (h7 : aL m = aL m') (h8 : aR m = aR m') (h9 : mC m = mC m') (h10 : mS m = mS m') : m = m' :=
  Prod.ext h1 (Prod.ext h2 (Prod.ext h3 (Prod.ext h4 (Prod.ext h5 (Prod.ext h6 (Prod.ext h7 (Prod.ext h8 (Prod.ext h9 h10))))))))
theorem fil_step {m : Mem} {a j n : Nat} {v : Int32} (h : j < n) : fil (wI m a j v) a (j + 1) n v = fil m a j n v := by
  refine Mem.ext' (id rfl) (id rfl) (id rfl) (id rfl) (id rfl) ?_ (id rfl) (id rfl) (id rfl) (id rfl)
  funext b i
  by_cases q : b = a
  · subst q
    rw [k_aI_fil_e, k_aI_fil_e, k_aI_wI_e]
    simp only [up1_ap]
    grind
  · rw [k_aI_fil q, k_aI_fil q, k_aI_wI q]
theorem fil_nil {m : Mem} {a n : Nat} {v : Int32} : fil m a n n v = m := by
  refine Mem.ext' (id rfl) (id rfl) (id rfl) (id rfl) (id rfl) ?_ (id rfl) (id rfl) (id rfl) (id rfl)
  funext b i
  by_cases q : b = a
  · subst q
    rw [k_aI_fil_e]
    show (if n ≤ i ∧ i < n then v else aI m b i) = _
    rw [if_neg (by omega)]
  · rw [k_aI_fil q]
theorem J_fill_5_e {a n : Nat} {v : Int32} (hn : n < 65536) : ∀ (d j fu : Nat) (m : Mem), j + d = n → d < fu → mT m a = 32 → mN m a = n → J_fill_5 fu (some a) v (nj j) (nj n) m = some ((), fil m a j n v)
  | 0, j, fu + 1, m, hj, _, ht, hN => by
    rw [J_fill_5.eq_2]
    simp (disch := omega) only [nj_le]
    rw [if_pos (by omega), show j = n by omega, fil_nil]
  | d + 1, j, fu + 1, m, hj, hf, ht, hN => by
    rw [J_fill_5.eq_2]
    simp (disch := omega) only [nj_le, gs_s, gt_t ht, inb_nj, hN, vb_e, ix_nj, nj_add_l]
    rw [if_neg (by omega), gd_t (decide_eq_true (by omega)), J_fill_5_e hn d (j + 1) fu (wI m a j v) (by omega) (by omega) ht hN, fil_step (by omega)]
theorem J_fill_e {a n : Nat} {v : Int32} {m : Mem} (hn : n < 65536) (ht : mT m a = 32) (hN : mN m a = n) : J_fill (some a) v m = some ((), fil m a 0 n v) := by
  unfold J_fill
  rw [gs_s, gt_t ht, vb_e, hN]
  exact J_fill_5_e hn n 0 FU m (by omega) (by unfold FU; omega) ht hN
/-- a FACT with n cells in its place, a0 -/
def iniF (m : Mem) (a0 : Nat) (x1 x2 x3 x4 x5 : Int32) (n : Nat) (x7 : Option Nat) : Mem :=
  fil (sR (nw (sR (sI (sI (sI (sI (sI m 0 a0 x1) 1 a0 x2) 2 a0 x3) 3 a0 x4) 4 a0 x5) 6 a0 x7) 32 n n) 5 a0 (some (mC m))) (mC m) 0 n (-1)
theorem P_Fact_init_e {m : Mem} {a0 n : Nat} {x1 x2 x3 x4 x5 x6 : Int32} {x7 : Option Nat} (ht : mT m a0 = 1) (ha : a0 < mC m) (h6 : jmax 0 x6 = nj n) (hn : n < 65536) : P_Fact_init a0 x1 x2 x3 x4 x5 x6 x7 m = some ((), iniF m a0 x1 x2 x3 x4 x5 n x7) := by
  unfold P_Fact_init iniF
  have hne : a0 ≠ mC m := by omega
  simp (disch := omega) only [vb_e, h6, inb_nj, ix_nj]
  rw [gd_t (decide_eq_true hn), gt_t (by simp only [k_aI_wI_e, k_aI_wI, k_aI_wL, k_aI_wR, k_aI_sI, k_aI_sL, k_aI_sR, k_aI_nw, k_aL_wL_e, k_aL_wL, k_aL_wI, k_aL_wR, k_aL_sI, k_aL_sL, k_aL_sR, k_aL_nw, k_aR_wR_e, k_aR_wR, k_aR_wI, k_aR_wL, k_aR_sI, k_aR_sL, k_aR_sR, k_aR_nw, k_mI_sI_e, k_mI_sI, k_mI_wI, k_mI_wL, k_mI_wR, k_mI_sL, k_mI_sR, k_mI_nw, k_mL_sL_e, k_mL_sL, k_mL_wI, k_mL_wL, k_mL_wR, k_mL_sI, k_mL_sR, k_mL_nw, k_mR_sR_e, k_mR_sR, k_mR_wI, k_mR_wL, k_mR_wR, k_mR_sI, k_mR_sL, k_mR_nw, k_mT_wI, k_mT_wL, k_mT_wR, k_mT_sI, k_mT_sL, k_mT_sR, k_mT_nw, k_mN_wI, k_mN_wL, k_mN_wR, k_mN_sI, k_mN_sL, k_mN_sR, k_mN_nw, k_mC_wI, k_mC_wL, k_mC_wR, k_mC_sI, k_mC_sL, k_mC_sR, k_mC_nw, k_mS_wI, k_mS_wL, k_mS_wR, k_mS_sI, k_mS_sL, k_mS_sR, k_mS_nw, k_zF_1, k_zF_3, k_zF_11, k_zF_32, k_zF_36, k_zA_1, k_zA_3, k_zA_11, k_zA_32, k_zA_36, k_mT_fil, k_mN_fil, k_mI_fil, k_mL_fil, k_mR_fil, k_aL_fil, k_aR_fil, k_mC_fil, k_mS_fil, k_aI_fil_e, k_aI_fil]; rw [up1_ne hne]; exact ht)]
  rw [show mR (sR (nw (sR (sI (sI (sI (sI (sI m 0 a0 x1) 1 a0 x2) 2 a0 x3) 3 a0 x4) 4 a0 x5) 6 a0 x7) 32 n n) 5 a0 (some (mC (sR (sI (sI (sI (sI (sI m 0 a0 x1) 1 a0 x2) 2 a0 x3) 3 a0 x4) 4 a0 x5) 6 a0 x7)))) 5 a0 = some (mC m) from by rw [k_mR_sR_e]; exact up1_eq]
  rw [J_fill_e hn (by simp only [k_aI_wI_e, k_aI_wI, k_aI_wL, k_aI_wR, k_aI_sI, k_aI_sL, k_aI_sR, k_aI_nw, k_aL_wL_e, k_aL_wL, k_aL_wI, k_aL_wR, k_aL_sI, k_aL_sL, k_aL_sR, k_aL_nw, k_aR_wR_e, k_aR_wR, k_aR_wI, k_aR_wL, k_aR_sI, k_aR_sL, k_aR_sR, k_aR_nw, k_mI_sI_e, k_mI_sI, k_mI_wI, k_mI_wL, k_mI_wR, k_mI_sL, k_mI_sR, k_mI_nw, k_mL_sL_e, k_mL_sL, k_mL_wI, k_mL_wL, k_mL_wR, k_mL_sI, k_mL_sR, k_mL_nw, k_mR_sR_e, k_mR_sR, k_mR_wI, k_mR_wL, k_mR_wR, k_mR_sI, k_mR_sL, k_mR_nw, k_mT_wI, k_mT_wL, k_mT_wR, k_mT_sI, k_mT_sL, k_mT_sR, k_mT_nw, k_mN_wI, k_mN_wL, k_mN_wR, k_mN_sI, k_mN_sL, k_mN_sR, k_mN_nw, k_mC_wI, k_mC_wL, k_mC_wR, k_mC_sI, k_mC_sL, k_mC_sR, k_mC_nw, k_mS_wI, k_mS_wL, k_mS_wR, k_mS_sI, k_mS_sL, k_mS_sR, k_mS_nw, k_zF_1, k_zF_3, k_zF_11, k_zF_32, k_zF_36, k_zA_1, k_zA_3, k_zA_11, k_zA_32, k_zA_36, k_mT_fil, k_mN_fil, k_mI_fil, k_mL_fil, k_mR_fil, k_aL_fil, k_aR_fil, k_mC_fil, k_mS_fil, k_aI_fil_e, k_aI_fil]; exact up1_eq) (by simp only [k_aI_wI_e, k_aI_wI, k_aI_wL, k_aI_wR, k_aI_sI, k_aI_sL, k_aI_sR, k_aI_nw, k_aL_wL_e, k_aL_wL, k_aL_wI, k_aL_wR, k_aL_sI, k_aL_sL, k_aL_sR, k_aL_nw, k_aR_wR_e, k_aR_wR, k_aR_wI, k_aR_wL, k_aR_sI, k_aR_sL, k_aR_sR, k_aR_nw, k_mI_sI_e, k_mI_sI, k_mI_wI, k_mI_wL, k_mI_wR, k_mI_sL, k_mI_sR, k_mI_nw, k_mL_sL_e, k_mL_sL, k_mL_wI, k_mL_wL, k_mL_wR, k_mL_sI, k_mL_sR, k_mL_nw, k_mR_sR_e, k_mR_sR, k_mR_wI, k_mR_wL, k_mR_wR, k_mR_sI, k_mR_sL, k_mR_nw, k_mT_wI, k_mT_wL, k_mT_wR, k_mT_sI, k_mT_sL, k_mT_sR, k_mT_nw, k_mN_wI, k_mN_wL, k_mN_wR, k_mN_sI, k_mN_sL, k_mN_sR, k_mN_nw, k_mC_wI, k_mC_wL, k_mC_wR, k_mC_sI, k_mC_sL, k_mC_sR, k_mC_nw, k_mS_wI, k_mS_wL, k_mS_wR, k_mS_sI, k_mS_sL, k_mS_sR, k_mS_nw, k_zF_1, k_zF_3, k_zF_11, k_zF_32, k_zF_36, k_zA_1, k_zA_3, k_zA_11, k_zA_32, k_zA_36, k_mT_fil, k_mN_fil, k_mI_fil, k_mL_fil, k_mR_fil, k_aL_fil, k_aR_fil, k_mC_fil, k_mS_fil, k_aI_fil_e, k_aI_fil]; exact up1_eq), bn_s]
  simp only [k_aI_wI_e, k_aI_wI, k_aI_wL, k_aI_wR, k_aI_sI, k_aI_sL, k_aI_sR, k_aI_nw, k_aL_wL_e, k_aL_wL, k_aL_wI, k_aL_wR, k_aL_sI, k_aL_sL, k_aL_sR, k_aL_nw, k_aR_wR_e, k_aR_wR, k_aR_wI, k_aR_wL, k_aR_sI, k_aR_sL, k_aR_sR, k_aR_nw, k_mI_sI_e, k_mI_sI, k_mI_wI, k_mI_wL, k_mI_wR, k_mI_sL, k_mI_sR, k_mI_nw, k_mL_sL_e, k_mL_sL, k_mL_wI, k_mL_wL, k_mL_wR, k_mL_sI, k_mL_sR, k_mL_nw, k_mR_sR_e, k_mR_sR, k_mR_wI, k_mR_wL, k_mR_wR, k_mR_sI, k_mR_sL, k_mR_nw, k_mT_wI, k_mT_wL, k_mT_wR, k_mT_sI, k_mT_sL, k_mT_sR, k_mT_nw, k_mN_wI, k_mN_wL, k_mN_wR, k_mN_sI, k_mN_sL, k_mN_sR, k_mN_nw, k_mC_wI, k_mC_wL, k_mC_wR, k_mC_sI, k_mC_sL, k_mC_sR, k_mC_nw, k_mS_wI, k_mS_wL, k_mS_wR, k_mS_sI, k_mS_sL, k_mS_sR, k_mS_nw, k_zF_1, k_zF_3, k_zF_11, k_zF_32, k_zF_36, k_zA_1, k_zA_3, k_zA_11, k_zA_32, k_zA_36, k_mT_fil, k_mN_fil, k_mI_fil, k_mL_fil, k_mR_fil, k_aL_fil, k_aR_fil, k_mC_fil, k_mS_fil, k_aI_fil_e, k_aI_fil]
