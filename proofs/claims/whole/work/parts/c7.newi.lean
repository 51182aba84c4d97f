/-! Layer C: a new ITEM, its first word -/
def itP (p : Mem) (k f : Int32) : Mem := sR (nw (sR (nw (sI (sI (sI (sI (sI (sI (sI (nw p 3 0 13) 258 (mC p) (-1)) 260 (mC p) (-1)) 261 (mC p) (-1)) 266 (mC p) 1) 267 (mC p) 0) 256 (mC p) k) 257 (mC p) f) 32 0 0) 262 (mC p) (some (mC p + 1))) 32 0 0) 263 (mC p) (some (mC p + 2))
section Ni
variable {p : Mem} {k f : Int32}
theorem P_Item_init_e : P_Item_init (mC p) k f (nw p 3 0 13) = some ((), itP p k f) := by
  unfold P_Item_init itP
  have e0 : inb 0 65536 = true := by decide
  have ez : ix 0 = 0 := by decide
  simp only [vb_e, ez]
  rw [gd_t e0, gt_t (by simp only [k_aI_wI_e, k_aI_wI, k_aI_wL, k_aI_wR, k_aI_sI, k_aI_sL, k_aI_sR, k_aI_nw, k_aL_wL_e, k_aL_wL, k_aL_wI, k_aL_wR, k_aL_sI, k_aL_sL, k_aL_sR, k_aL_nw, k_aR_wR_e, k_aR_wR, k_aR_wI, k_aR_wL, k_aR_sI, k_aR_sL, k_aR_sR, k_aR_nw, k_mI_sI_e, k_mI_sI, k_mI_wI, k_mI_wL, k_mI_wR, k_mI_sL, k_mI_sR, k_mI_nw, k_mL_sL_e, k_mL_sL, k_mL_wI, k_mL_wL, k_mL_wR, k_mL_sI, k_mL_sR, k_mL_nw, k_mR_sR_e, k_mR_sR, k_mR_wI, k_mR_wL, k_mR_wR, k_mR_sI, k_mR_sL, k_mR_nw, k_mT_wI, k_mT_wL, k_mT_wR, k_mT_sI, k_mT_sL, k_mT_sR, k_mT_nw, k_mN_wI, k_mN_wL, k_mN_wR, k_mN_sI, k_mN_sL, k_mN_sR, k_mN_nw, k_mC_wI, k_mC_wL, k_mC_wR, k_mC_sI, k_mC_sL, k_mC_sR, k_mC_nw, k_mS_wI, k_mS_wL, k_mS_wR, k_mS_sI, k_mS_sL, k_mS_sR, k_mS_nw, k_zF_1, k_zF_3, k_zF_11, k_zF_32, k_zF_36, k_zA_1, k_zA_3, k_zA_11, k_zA_32, k_zA_36, k_mT_fil, k_mN_fil, k_mI_fil, k_mL_fil, k_mR_fil, k_aL_fil, k_aR_fil, k_mC_fil, k_mS_fil, k_aI_fil_e, k_aI_fil]; rw [up1_ne (by omega)]; exact up1_eq), gd_t e0, gt_t (by simp only [k_aI_wI_e, k_aI_wI, k_aI_wL, k_aI_wR, k_aI_sI, k_aI_sL, k_aI_sR, k_aI_nw, k_aL_wL_e, k_aL_wL, k_aL_wI, k_aL_wR, k_aL_sI, k_aL_sL, k_aL_sR, k_aL_nw, k_aR_wR_e, k_aR_wR, k_aR_wI, k_aR_wL, k_aR_sI, k_aR_sL, k_aR_sR, k_aR_nw, k_mI_sI_e, k_mI_sI, k_mI_wI, k_mI_wL, k_mI_wR, k_mI_sL, k_mI_sR, k_mI_nw, k_mL_sL_e, k_mL_sL, k_mL_wI, k_mL_wL, k_mL_wR, k_mL_sI, k_mL_sR, k_mL_nw, k_mR_sR_e, k_mR_sR, k_mR_wI, k_mR_wL, k_mR_wR, k_mR_sI, k_mR_sL, k_mR_nw, k_mT_wI, k_mT_wL, k_mT_wR, k_mT_sI, k_mT_sL, k_mT_sR, k_mT_nw, k_mN_wI, k_mN_wL, k_mN_wR, k_mN_sI, k_mN_sL, k_mN_sR, k_mN_nw, k_mC_wI, k_mC_wL, k_mC_wR, k_mC_sI, k_mC_sL, k_mC_sR, k_mC_nw, k_mS_wI, k_mS_wL, k_mS_wR, k_mS_sI, k_mS_sL, k_mS_sR, k_mS_nw, k_zF_1, k_zF_3, k_zF_11, k_zF_32, k_zF_36, k_zA_1, k_zA_3, k_zA_11, k_zA_32, k_zA_36, k_mT_fil, k_mN_fil, k_mI_fil, k_mL_fil, k_mR_fil, k_aL_fil, k_aR_fil, k_mC_fil, k_mS_fil, k_aI_fil_e, k_aI_fil]; rw [up1_ne (by omega), up1_ne (by omega)]; exact up1_eq)]
  simp only [k_aI_wI_e, k_aI_wI, k_aI_wL, k_aI_wR, k_aI_sI, k_aI_sL, k_aI_sR, k_aI_nw, k_aL_wL_e, k_aL_wL, k_aL_wI, k_aL_wR, k_aL_sI, k_aL_sL, k_aL_sR, k_aL_nw, k_aR_wR_e, k_aR_wR, k_aR_wI, k_aR_wL, k_aR_sI, k_aR_sL, k_aR_sR, k_aR_nw, k_mI_sI_e, k_mI_sI, k_mI_wI, k_mI_wL, k_mI_wR, k_mI_sL, k_mI_sR, k_mI_nw, k_mL_sL_e, k_mL_sL, k_mL_wI, k_mL_wL, k_mL_wR, k_mL_sI, k_mL_sR, k_mL_nw, k_mR_sR_e, k_mR_sR, k_mR_wI, k_mR_wL, k_mR_wR, k_mR_sI, k_mR_sL, k_mR_nw, k_mT_wI, k_mT_wL, k_mT_wR, k_mT_sI, k_mT_sL, k_mT_sR, k_mT_nw, k_mN_wI, k_mN_wL, k_mN_wR, k_mN_sI, k_mN_sL, k_mN_sR, k_mN_nw, k_mC_wI, k_mC_wL, k_mC_wR, k_mC_sI, k_mC_sL, k_mC_sR, k_mC_nw, k_mS_wI, k_mS_wL, k_mS_wR, k_mS_sI, k_mS_sL, k_mS_sR, k_mS_nw, k_zF_1, k_zF_3, k_zF_11, k_zF_32, k_zF_36, k_zA_1, k_zA_3, k_zA_11, k_zA_32, k_zA_36, k_mT_fil, k_mN_fil, k_mI_fil, k_mL_fil, k_mR_fil, k_aL_fil, k_aR_fil, k_mC_fil, k_mS_fil, k_aI_fil_e, k_aI_fil]
theorem itP_C : mC (itP p k f) = mC p + 3 ∧ mS (itP p k f) = mS p + 13 := by
  unfold itP
  simp only [k_aI_wI_e, k_aI_wI, k_aI_wL, k_aI_wR, k_aI_sI, k_aI_sL, k_aI_sR, k_aI_nw, k_aL_wL_e, k_aL_wL, k_aL_wI, k_aL_wR, k_aL_sI, k_aL_sL, k_aL_sR, k_aL_nw, k_aR_wR_e, k_aR_wR, k_aR_wI, k_aR_wL, k_aR_sI, k_aR_sL, k_aR_sR, k_aR_nw, k_mI_sI_e, k_mI_sI, k_mI_wI, k_mI_wL, k_mI_wR, k_mI_sL, k_mI_sR, k_mI_nw, k_mL_sL_e, k_mL_sL, k_mL_wI, k_mL_wL, k_mL_wR, k_mL_sI, k_mL_sR, k_mL_nw, k_mR_sR_e, k_mR_sR, k_mR_wI, k_mR_wL, k_mR_wR, k_mR_sI, k_mR_sL, k_mR_nw, k_mT_wI, k_mT_wL, k_mT_wR, k_mT_sI, k_mT_sL, k_mT_sR, k_mT_nw, k_mN_wI, k_mN_wL, k_mN_wR, k_mN_sI, k_mN_sL, k_mN_sR, k_mN_nw, k_mC_wI, k_mC_wL, k_mC_wR, k_mC_sI, k_mC_sL, k_mC_sR, k_mC_nw, k_mS_wI, k_mS_wL, k_mS_wR, k_mS_sI, k_mS_sL, k_mS_sR, k_mS_nw, k_zF_1, k_zF_3, k_zF_11, k_zF_32, k_zF_36, k_zA_1, k_zA_3, k_zA_11, k_zA_32, k_zA_36, k_mT_fil, k_mN_fil, k_mI_fil, k_mL_fil, k_mR_fil, k_aL_fil, k_aR_fil, k_mC_fil, k_mS_fil, k_aI_fil_e, k_aI_fil]
  exact ⟨trivial, trivial⟩
theorem itP_Ch : Ch [] [] nil p (itP p k f) := by
  unfold itP
  have h1 : mC p ≤ mC p := Nat.le_refl _
  exact ch_sRn (ch_sRn (ch_sIn (ch_sIn (ch_sIn (ch_sIn (ch_sIn (ch_sIn (ch_sIn Ch.rfl.nw h1) h1) h1) h1) h1) h1) h1).nw h1).nw h1
theorem itP_at : mT (itP p k f) (mC p) = 3 ∧ mI (itP p k f) 256 (mC p) = k ∧ mI (itP p k f) 257 (mC p) = f ∧ mI (itP p k f) 266 (mC p) = 1 ∧ mI (itP p k f) 267 (mC p) = 0 := by
  unfold itP
  refine ⟨?_, ?_, ?_, ?_, ?_⟩ <;> simp [k_aI_wI_e, k_aI_wI, k_aI_wL, k_aI_wR, k_aI_sI, k_aI_sL, k_aI_sR, k_aI_nw, k_aL_wL_e, k_aL_wL, k_aL_wI, k_aL_wR, k_aL_sI, k_aL_sL, k_aL_sR, k_aL_nw, k_aR_wR_e, k_aR_wR, k_aR_wI, k_aR_wL, k_aR_sI, k_aR_sL, k_aR_sR, k_aR_nw, k_mI_sI_e, k_mI_sI, k_mI_wI, k_mI_wL, k_mI_wR, k_mI_sL, k_mI_sR, k_mI_nw, k_mL_sL_e, k_mL_sL, k_mL_wI, k_mL_wL, k_mL_wR, k_mL_sI, k_mL_sR, k_mL_nw, k_mR_sR_e, k_mR_sR, k_mR_wI, k_mR_wL, k_mR_wR, k_mR_sI, k_mR_sL, k_mR_nw, k_mT_wI, k_mT_wL, k_mT_wR, k_mT_sI, k_mT_sL, k_mT_sR, k_mT_nw, k_mN_wI, k_mN_wL, k_mN_wR, k_mN_sI, k_mN_sL, k_mN_sR, k_mN_nw, k_mC_wI, k_mC_wL, k_mC_wR, k_mC_sI, k_mC_sL, k_mC_sR, k_mC_nw, k_mS_wI, k_mS_wL, k_mS_wR, k_mS_sI, k_mS_sL, k_mS_sR, k_mS_nw, k_zF_1, k_zF_3, k_zF_11, k_zF_32, k_zF_36, k_zA_1, k_zA_3, k_zA_11, k_zA_32, k_zA_36, k_mT_fil, k_mN_fil, k_mI_fil, k_mL_fil, k_mR_fil, k_aL_fil, k_aR_fil, k_mC_fil, k_mS_fil, k_aI_fil_e, k_aI_fil, up1_ap]
  omega
theorem itP_fr (T : 51 ≤ mC p) : FrP (mC p) (mC p + 1) (mC p + 2) (itP p k f) := by
  unfold itP FrP Arr
  refine ⟨?_, ?_, ?_, ?_, ?_, ?_, ?_, by omega, by omega, ⟨?_, ?_, by decide, fun j v hj => by cases hj⟩, ⟨?_, ?_, by decide, fun j v hj => by cases hj⟩, by omega, by omega⟩ <;> simp [k_aI_wI_e, k_aI_wI, k_aI_wL, k_aI_wR, k_aI_sI, k_aI_sL, k_aI_sR, k_aI_nw, k_aL_wL_e, k_aL_wL, k_aL_wI, k_aL_wR, k_aL_sI, k_aL_sL, k_aL_sR, k_aL_nw, k_aR_wR_e, k_aR_wR, k_aR_wI, k_aR_wL, k_aR_sI, k_aR_sL, k_aR_sR, k_aR_nw, k_mI_sI_e, k_mI_sI, k_mI_wI, k_mI_wL, k_mI_wR, k_mI_sL, k_mI_sR, k_mI_nw, k_mL_sL_e, k_mL_sL, k_mL_wI, k_mL_wL, k_mL_wR, k_mL_sI, k_mL_sR, k_mL_nw, k_mR_sR_e, k_mR_sR, k_mR_wI, k_mR_wL, k_mR_wR, k_mR_sI, k_mR_sL, k_mR_nw, k_mT_wI, k_mT_wL, k_mT_wR, k_mT_sI, k_mT_sL, k_mT_sR, k_mT_nw, k_mN_wI, k_mN_wL, k_mN_wR, k_mN_sI, k_mN_sL, k_mN_sR, k_mN_nw, k_mC_wI, k_mC_wL, k_mC_wR, k_mC_sI, k_mC_sL, k_mC_sR, k_mC_nw, k_mS_wI, k_mS_wL, k_mS_wR, k_mS_sI, k_mS_sL, k_mS_sR, k_mS_nw, k_zF_1, k_zF_3, k_zF_11, k_zF_32, k_zF_36, k_zA_1, k_zA_3, k_zA_11, k_zA_32, k_zA_36, k_mT_fil, k_mN_fil, k_mI_fil, k_mL_fil, k_mR_fil, k_aL_fil, k_aR_fil, k_mC_fil, k_mS_fil, k_aI_fil_e, k_aI_fil, up1_ap]
end Ni
/-- both within a TEXT, a fault may be late at this very token -/
def Pj (N : Nat) (kd pl : Nat → Nat) (x : Nat) (p r : Mem) (t nm l c : Nat) : Prop := Ps N kd pl p r t ∧ Lat p r (pl t + 1) ∧ Nam pl t p r nm ∧ mI r 1580 0 = nj l ∧ 200 * x ≤ l ∧ 3 * (l - 200 * x) ≤ t ∧ mI r 1581 0 = nj c ∧ 500 * x ≤ c ∧ c ≤ 500 * x + t ∧ x ≤ 23
section Pj
variable {N : Nat} {kd pl : Nat → Nat} {x a i l c : Nat} {p r : Mem} {t nm : Nat}
theorem Pi.pj (h : Pi N kd pl x p r t nm l c) : Pj N kd pl x p r t nm l c := ⟨h.1, h.2.1.mono (by omega), h.2.2⟩
theorem Pj.wI {y j : Nat} {v : Int32} (h : Pj N kd pl x p r t nm l c) (hy : 10 ≤ y) : Pj N kd pl x p (wI r y j v) t nm l c := by
  obtain ⟨⟨a1, a2, a3, a4, a5, a6, a7, a8, a9, a10, a11, a12⟩, g2, g3, g4⟩ := h
  exact ⟨⟨a1.keep rfl rfl rfl (by rw [k_aI_wI (by omega)]) (by rw [k_aI_wI (by omega)]) (by rw [k_aI_wI (by omega)]) rfl, a2, a3, a4, a5, a6, a7, a8, a9, a10, a11, a12⟩, g2, g3, g4⟩
theorem Pi.chp {F A : List Nat} {p' : Mem} (h : Pi N kd pl x p r t nm l c) (k : Ch F A nil p p') (hF : (F.all fun f => decide (f ∉ [771, 773, 774, 776, 777, 778, 779])) = true) (hA : (A.all fun f => decide (f ∉ [18, 19, 20, 23])) = true) : Pi N kd pl x p' r t nm l c := by
  obtain ⟨⟨a1, a2, a3, a4, a5, a6, a7, a8, a9, a10, a11, a12⟩, g2, g3, g4⟩ := h
  have T1 := a9.1
  have nF : ∀ f, f ∈ [771, 773, 774, 776, 777, 778, 779] → f ∉ F := fun f hf w => of_decide_eq_true (List.all_eq_true.mp hF f w) hf
  have nA : ∀ f, f ∈ [18, 19, 20, 23] → f ∉ A := fun f hf w => of_decide_eq_true (List.all_eq_true.mp hA f w) hf
  exact ⟨⟨a1.ch k T1 ⟨nA 18 (by decide), nA 19 (by decide), nA 20 (by decide)⟩, a2, by rw [k.i (nF 779 (by decide)) (by omega)]; exact a3, a4, a5, a6, by rw [k.i (nF 773 (by decide)) (by omega)]; exact a7, by rw [k.i (nF 774 (by decide)) (by omega)]; exact a8, a9.Ch k, a10, by rw [k.t (by omega)]; exact a11, by rw [k.n (by omega)]; exact a12⟩, g2.same (k.i (nF 776 (by decide)) (by omega)) (k.i (nF 777 (by decide)) (by omega)) rfl rfl, g3.same (Nat.le_refl _) rfl (k.i (nF 771 (by decide)) (by omega)) (k.al (nA 23 (by decide)) (fun z => z) (by omega)) rfl rfl (k.i (nF 778 (by decide)) (by omega)), g4⟩
/-- both note a fault at this token -/
theorem Pi.nt (h : Pi N kd pl x p r t nm l c) {k : Nat} (hk : 0 < k) (hk2 : k < 100) : P_Parser_noteLate (nj k) p = some ((), ntP k (pl t) p) ∧ R_wrong (nj k) (nj t) r = some ((), wrR k (pl t) r) ∧ Pj N kd pl x (ntP k (pl t) p) (wrR k (pl t) r) t nm l c := by
  have hT := h.tN
  have hl := h.late
  obtain ⟨k1, k2, k3, k4, k5, k6, k7, k8⟩ := h.1.1.2.2.2.2 t h.1.2.1
  obtain ⟨⟨a1, a2, a3, a4, a5, a6, a7, a8, a9, a10, a11, a12⟩, g2, g3, g4, g5, g6, g7, g8⟩ := h
  obtain ⟨q1, q2, q3, q4, q5, q6, q7, q8, q9⟩ := ntP_x (k := k) (q := pl t) (m := p)
  obtain ⟨w1, w2, w3, w4⟩ := wrR_x (k := k) (q := pl t) (m := r)
  refine ⟨late_e k a3 (by omega) k5, wrong_e k a5 (by omega) k6 k2 hl, ⟨a1.keep (by rw [q3]) (by rw [q3]) (by rw [q4]) (by rw [w3]) (by rw [w3]) (by rw [w3]) (by rw [w4]), a2, by rw [ntP_o (by omega) (by omega)]; exact a3, by rw [wrR_o (by omega) (by omega)]; exact a4, by rw [wrR_o (by omega) (by omega)]; exact a5, by rw [wrR_o (by omega) (by omega)]; exact a6, by rw [ntP_o (by omega) (by omega)]; exact a7, by rw [ntP_o (by omega) (by omega)]; exact a8, a9.same q6 q1, by rw [w1]; exact a10, by rw [q6]; exact a11, by rw [q7]; exact a12⟩, g2.nt hk hk2 k2, g3.same (Nat.le_refl _) (by rw [wrR_o (by omega) (by omega)]) (by rw [ntP_o (by omega) (by omega)]) (by rw [q4]) (by rw [w4]) (by rw [wrR_o (by omega) (by omega)]) (by rw [ntP_o (by omega) (by omega)]), by rw [wrR_o (by omega) (by omega)]; exact g4, g5, g6, by rw [wrR_o (by omega) (by omega)]; exact g7, g8⟩
theorem take_l (h : Pj N kd pl x p r t nm l c) (h2 : 2 ≤ kd t) :
    (∃ p' r', P_Parser_take p = some (1, p') ∧ R_next r = some ((), r') ∧ Pi N kd pl x p' r' (t + 1) nm l c ∧ p' = sI p 779 22 (nj (t + 1)) ∧ r' = sI r 1547 0 (nj (t + 1))) ∨
    (∃ p' r', P_Parser_take p = some (0, p') ∧ R_next r = some ((), r') ∧ Bi 0 a i l c t nm p r p' r') := by
  obtain ⟨h1, h3, h4, h5, h6, h7, h8, h9, h10, h11⟩ := h
  have hN := h1.1.2.1
  have htN := h1.2.1
  obtain ⟨k1, k2, k3, k4, k5, k6, k7, k8⟩ := h1.1.2.2.2.2 t h1.2.1
  have eis := is_r h1.2.2.2.2.1 h1.2.2.2.1 (by omega) k4 k1 (kd t) k1 (x := nj (kM (kd t))) rfl
  rcases kind_j h1 (kd t) k1 (x := nj (kM (kd t))) rfl h2 with ⟨z, w, p', r', a1, a2, a3, a4, a5⟩ | ⟨p', r', a1, a2, a3⟩
  · left
    have hpl := (h1.1.2.2.2.1 t a5.2.1).2
    unfold P_Parser_takeKind at a1
    rw [h1.2.2.1, inb_nj (by omega), gd_t (decide_eq_true (by omega)), ix_nj (by omega), k3, if_pos rfl] at a1
    obtain ⟨v, m, b1, b2⟩ := bnk a1
    have b3 : v = 1 ∧ m = p' := by
      unfold gz at b2
      split at b2
      · have := Prod.mk.inj (Option.some.inj b2)
        exact ⟨this.1, this.2⟩
      · cases b2
    rw [b3.1, b3.2] at b1
    unfold R_must at a2
    rw [eis, bn_s, decide_eq_true rfl, tI_t, if_neg (show ¬ (1 : Int32) = 0 by decide)] at a2
    obtain ⟨v', m', d1, d2⟩ := bnk a2
    have d3 := some_snd d2
    subst d3
    refine ⟨p', m', b1, d1, ⟨a5, ?_, ?_, ?_, h6, by omega, ?_, h9, by omega, h11⟩, a3, a4⟩
    · subst a3 a4
      exact (h3.same (by rw [k_mI_sI (by omega)]) (by rw [k_mI_sI (by omega)]) (by rw [k_mI_sI (by omega)]) (by rw [k_mI_sI (by omega)])).mono (by omega)
    · subst a3 a4
      exact h4.same (by omega) (by rw [k_mI_sI (by omega)]) (by rw [k_mI_sI (by omega)]) (by rw [k_aL_sI]) (by rw [k_aL_sI]) (by rw [k_mI_sI (by omega)]) (by rw [k_mI_sI (by omega)])
    · rw [a4, k_mI_sI (by omega)]; exact h5
    · rw [a4, k_mI_sI (by omega)]; exact h8
  · right
    unfold P_Parser_takeKind at a1
    rw [h1.2.2.1, inb_nj (by omega), gd_t (decide_eq_true (by omega)), ix_nj (by omega), k3, if_pos rfl] at a1
    obtain ⟨v, m, b1, b2⟩ := bnk a1
    have b3 : v = 0 ∧ m = p' := by
      unfold gz at b2
      split at b2
      · have := Prod.mk.inj (Option.some.inj b2)
        exact ⟨this.1, this.2⟩
      · cases b2
    rw [b3.1, b3.2] at b1
    unfold R_must at a2
    rw [eis, bn_s, decide_eq_true rfl, tI_t, if_neg (show ¬ (1 : Int32) = 0 by decide)] at a2
    obtain ⟨v', m', d1, d2⟩ := bnk a2
    have d3 := some_snd d2
    subst d3
    exact ⟨p', m', b1, d1, (a3 nm).bi h1.2.2.2.2.2.2.2.2.2.1 (by omega)⟩
end Pj
/-- the reference's ITEM, as it begins -/
def itR (r : Mem) (i : Nat) (s : Int32) (l c : Nat) : Mem := wI (wI (wI (wI (wI (wI (wI (wI r 15 i s) 16 i (-1)) 17 i 0) 18 i 0) 25 i 0) 21 i (nj c)) 22 i (nj c)) 23 i (nj l)
/-- an ITEM that has no place in such a TEXT -/
def mis (s0 s : Nat) : Bool := if s0 = 0 ∨ s0 = 3 then decide (7 ≤ s) else decide (s ≤ 1)
theorem mis_e {m : Mem} {s0 s : Nat} (h0 : s0 < 4) (hs : s ≤ 8) (h : mI m 783 22 = nj s0) : P_Parser_isMisplaced (nj (s + 32)) m = some (tI (mis s0 s), m) := by
  unfold P_Parser_isMisplaced P_Parser_isMisplaced_15 P_Parser_isMisplaced_20 mis
  have e0 : (nj s0 = 0) = (s0 = 0) := nj_eq_l (by omega) (by omega)
  have e3 : (nj s0 = 3) = (s0 = 3) := nj_eq_l (by omega) (by omega)
  have e39 : (nj (s + 32) = 39) = (s + 32 = 39) := nj_eq_l (by omega) (by omega)
  have e40 : (nj (s + 32) = 40) = (s + 32 = 40) := nj_eq_l (by omega) (by omega)
  have e32 : (nj (s + 32) = 32) = (s + 32 = 32) := nj_eq_l (by omega) (by omega)
  have e33 : (nj (s + 32) = 33) = (s + 32 = 33) := nj_eq_l (by omega) (by omega)
  simp only [h, e0, e3, e39, e40, e32, e33, if_neg (show ¬ (1 : Int32) = 0 by decide), if_true]
  by_cases q : s0 = 0 ∨ s0 = 3
  · rw [if_pos q]
    have : (if s + 32 = 39 then some ((1 : Int32), m) else if s + 32 = 40 then some (1, m) else some (0, m)) = some (tI (decide (7 ≤ s)), m) := by
      by_cases w : s + 32 = 39
      · rw [if_pos w, decide_eq_true (by omega)]; rfl
      · rw [if_neg w]
        by_cases w2 : s + 32 = 40
        · rw [if_pos w2, decide_eq_true (by omega)]; rfl
        · rw [if_neg w2, decide_eq_false (by omega)]; rfl
    rw [this]
    rcases q with q | q
    · rw [if_pos q]
    · rw [if_neg (by omega), if_pos q]
  · rw [if_neg q, if_neg (by omega), if_neg (by omega)]
    by_cases w : s + 32 = 32
    · rw [if_pos w, decide_eq_true (by omega)]; rfl
    · rw [if_neg w]
      by_cases w2 : s + 32 = 33
      · rw [if_pos w2, decide_eq_true (by omega)]; rfl
      · rw [if_neg w2, decide_eq_false (by omega)]; rfl
section Ri2
variable {r : Mem} {x k s0 s l c t : Nat}
theorem e154_e (h9 : mI r 1549 0 = 0) (hx : mI r 1588 0 = nj x) (hx2 : x ≤ 23) (h8 : aI r 8 x = nj s0) (h0 : s0 < 4) (hs : s ≤ 8) : R_tellItem_154 (nj s) r = if mis s0 s = true then R_tellItem_212 (nj s) r else R_tellItem_221 (nj s) r := by
  unfold R_tellItem_154 R_tellItem_187 R_tellItem_192 R_tellItem_203 mis
  have e0 : (nj s0 = 0) = (s0 = 0) := nj_eq_l (by omega) (by omega)
  have e3 : (nj s0 = 3) = (s0 = 3) := nj_eq_l (by omega) (by omega)
  have e6 : ((6 : Int32) < nj s) = (6 < s) := nj_l_lt (by omega) (by omega)
  have e2 : ((2 : Int32) ≤ nj s) = (2 ≤ s) := nj_l_le (by omega) (by omega)
  have hz : ix (nj x) = x := ix_nj (by omega)
  rw [h9, if_pos (show (0 : Int32) ≤ 0 by decide), hx, inb_nj (by omega), gd_t (decide_eq_true (by omega)), hz, h8, gd_t (decide_eq_true (by omega))]
  simp only [e0, e3, e6, e2, if_neg (show ¬ (1 : Int32) = 0 by decide), if_true]
  by_cases q : s0 = 0 ∨ s0 = 3
  · rw [if_pos q]
    have : (if 6 < s then R_tellItem_212 (nj s) r else R_tellItem_221 (nj s) r) = if decide (7 ≤ s) = true then R_tellItem_212 (nj s) r else R_tellItem_221 (nj s) r := by
      by_cases w : 6 < s
      · rw [if_pos w, if_pos (decide_eq_true (by omega))]
      · rw [if_neg w, if_neg (by rw [decide_eq_true_eq]; omega)]
    rw [this]
    rcases q with q | q
    · rw [if_pos q]
    · rw [if_neg (by omega), if_pos q]
  · rw [if_neg q, if_neg (by omega), if_neg (by omega)]
    by_cases w : 2 ≤ s
    · rw [if_pos w, if_neg (by rw [decide_eq_true_eq]; omega)]
    · rw [if_neg w, if_pos (decide_eq_true (by omega))]
theorem e221_e (hx : mI r 1588 0 = nj x) (hx2 : x ≤ 23) (h14 : aI r 14 x = nj k) (hk : k < 30) (h80 : mI r 1580 0 = nj l) (h81 : mI r 1581 0 = nj c) : R_tellItem_221 (nj s) r = bn (R_next (itR r (30 * x + k) (nj s) l c)) fun _ m36 => RBod (nj s) (nj (30 * x + k)) m36 := by
  unfold R_tellItem_221 itR RBod
  have hz : ix (nj x) = x := ix_nj (by omega)
  have e : (30 : Int32) * nj x + nj k = nj (30 * x + k) := by
    rw [nj_l_mul, nj_add]
  have g : ∀ {β : Type} (z : Option β), gd (inb (nj (30 * x + k)) 750) z = z := fun z => by rw [inb_nj (by omega), gd_t (decide_eq_true (by omega))]
  have hi : ix (nj (30 * x + k)) = 30 * x + k := ix_nj (by omega)
  rw [hx, inb_nj (by omega), gd_t (decide_eq_true (by omega)), hz, h14, vb_e, e]
  rw [g, vb_e, g, vb_e, g, vb_e, g, vb_e, g, vb_e, g, vb_e, g, vb_e, g, vb_e]
  simp only [hi, k_mI_wI, h80, h81]
end Ri2
section Te
variable {N : Nat} {kd pl : Nat → Nat} {x l c : Nat} {p r : Mem} {t nm : Nat}
theorem tellI_e (h : Pi N kd pl x p r t nm l c) (s : Nat) (hs : s ≤ 8) (hk : kd t = s + 32) : R_tellItem r = R_tellItem_121 (nj s) r := by
  unfold R_tellItem
  have i0 : R_is 26 r = some (tI (decide (kd t = 32)), r) := h.is 32 (by omega) (y := 26) rfl
  have i1 : R_is 28 r = some (tI (decide (kd t = 33)), r) := h.is 33 (by omega) (y := 28) rfl
  have i2 : R_is 29 r = some (tI (decide (kd t = 34)), r) := h.is 34 (by omega) (y := 29) rfl
  have i3 : R_is 34 r = some (tI (decide (kd t = 35)), r) := h.is 35 (by omega) (y := 34) rfl
  have i4 : R_is 38 r = some (tI (decide (kd t = 36)), r) := h.is 36 (by omega) (y := 38) rfl
  have i5 : R_is 39 r = some (tI (decide (kd t = 37)), r) := h.is 37 (by omega) (y := 39) rfl
  have i6 : R_is 41 r = some (tI (decide (kd t = 38)), r) := h.is 38 (by omega) (y := 41) rfl
  have i7 : R_is 42 r = some (tI (decide (kd t = 39)), r) := h.is 39 (by omega) (y := 42) rfl
  have i8 : R_is 31 r = some (tI (decide (kd t = 40)), r) := h.is 40 (by omega) (y := 31) rfl
  rw [i0, bn_s, i1, bn_s, i2, bn_s, i3, bn_s, i4, bn_s, i5, bn_s, i6, bn_s, i7, bn_s, i8, bn_s, hk]
  rcases (show s = 0 ∨ s = 1 ∨ s = 2 ∨ s = 3 ∨ s = 4 ∨ s = 5 ∨ s = 6 ∨ s = 7 ∨ s = 8 by omega) with e | e | e | e | e | e | e | e | e <;> subst e
  · rw [if_neg (show ¬ tI (decide (0 + 32 = 32)) = 0 by decide)]
    rfl
  · rw [if_pos (show tI (decide (1 + 32 = 32)) = 0 by decide), if_neg (show ¬ tI (decide (1 + 32 = 33)) = 0 by decide)]
    rfl
  · rw [if_pos (show tI (decide (2 + 32 = 32)) = 0 by decide), if_pos (show tI (decide (2 + 32 = 33)) = 0 by decide), if_neg (show ¬ tI (decide (2 + 32 = 34)) = 0 by decide)]
    rfl
  · rw [if_pos (show tI (decide (3 + 32 = 32)) = 0 by decide), if_pos (show tI (decide (3 + 32 = 33)) = 0 by decide), if_pos (show tI (decide (3 + 32 = 34)) = 0 by decide), if_neg (show ¬ tI (decide (3 + 32 = 35)) = 0 by decide)]
    rfl
  · rw [if_pos (show tI (decide (4 + 32 = 32)) = 0 by decide), if_pos (show tI (decide (4 + 32 = 33)) = 0 by decide), if_pos (show tI (decide (4 + 32 = 34)) = 0 by decide), if_pos (show tI (decide (4 + 32 = 35)) = 0 by decide), if_neg (show ¬ tI (decide (4 + 32 = 36)) = 0 by decide)]
    rfl
  · rw [if_pos (show tI (decide (5 + 32 = 32)) = 0 by decide), if_pos (show tI (decide (5 + 32 = 33)) = 0 by decide), if_pos (show tI (decide (5 + 32 = 34)) = 0 by decide), if_pos (show tI (decide (5 + 32 = 35)) = 0 by decide), if_pos (show tI (decide (5 + 32 = 36)) = 0 by decide), if_neg (show ¬ tI (decide (5 + 32 = 37)) = 0 by decide)]
    rfl
  · rw [if_pos (show tI (decide (6 + 32 = 32)) = 0 by decide), if_pos (show tI (decide (6 + 32 = 33)) = 0 by decide), if_pos (show tI (decide (6 + 32 = 34)) = 0 by decide), if_pos (show tI (decide (6 + 32 = 35)) = 0 by decide), if_pos (show tI (decide (6 + 32 = 36)) = 0 by decide), if_pos (show tI (decide (6 + 32 = 37)) = 0 by decide), if_neg (show ¬ tI (decide (6 + 32 = 38)) = 0 by decide)]
    rfl
  · rw [if_pos (show tI (decide (7 + 32 = 32)) = 0 by decide), if_pos (show tI (decide (7 + 32 = 33)) = 0 by decide), if_pos (show tI (decide (7 + 32 = 34)) = 0 by decide), if_pos (show tI (decide (7 + 32 = 35)) = 0 by decide), if_pos (show tI (decide (7 + 32 = 36)) = 0 by decide), if_pos (show tI (decide (7 + 32 = 37)) = 0 by decide), if_pos (show tI (decide (7 + 32 = 38)) = 0 by decide), if_neg (show ¬ tI (decide (7 + 32 = 39)) = 0 by decide)]
    rfl
  · rw [if_pos (show tI (decide (8 + 32 = 32)) = 0 by decide), if_pos (show tI (decide (8 + 32 = 33)) = 0 by decide), if_pos (show tI (decide (8 + 32 = 34)) = 0 by decide), if_pos (show tI (decide (8 + 32 = 35)) = 0 by decide), if_pos (show tI (decide (8 + 32 = 36)) = 0 by decide), if_pos (show tI (decide (8 + 32 = 37)) = 0 by decide), if_pos (show tI (decide (8 + 32 = 38)) = 0 by decide), if_pos (show tI (decide (8 + 32 = 39)) = 0 by decide), if_neg (show ¬ tI (decide (8 + 32 = 40)) = 0 by decide)]
    rfl
theorem tellI_n (h : Pi N kd pl x p r t nm l c) (hk : kd t < 32 ∨ 40 < kd t) : R_tellItem r = R_tellItem_121 (-1) r := by
  unfold R_tellItem
  have i0 : R_is 26 r = some (0, r) := by rw [h.is 32 (by omega) (y := 26) rfl, decide_eq_false (by omega)]; rfl
  have i1 : R_is 28 r = some (0, r) := by rw [h.is 33 (by omega) (y := 28) rfl, decide_eq_false (by omega)]; rfl
  have i2 : R_is 29 r = some (0, r) := by rw [h.is 34 (by omega) (y := 29) rfl, decide_eq_false (by omega)]; rfl
  have i3 : R_is 34 r = some (0, r) := by rw [h.is 35 (by omega) (y := 34) rfl, decide_eq_false (by omega)]; rfl
  have i4 : R_is 38 r = some (0, r) := by rw [h.is 36 (by omega) (y := 38) rfl, decide_eq_false (by omega)]; rfl
  have i5 : R_is 39 r = some (0, r) := by rw [h.is 37 (by omega) (y := 39) rfl, decide_eq_false (by omega)]; rfl
  have i6 : R_is 41 r = some (0, r) := by rw [h.is 38 (by omega) (y := 41) rfl, decide_eq_false (by omega)]; rfl
  have i7 : R_is 42 r = some (0, r) := by rw [h.is 39 (by omega) (y := 42) rfl, decide_eq_false (by omega)]; rfl
  have i8 : R_is 31 r = some (0, r) := by rw [h.is 40 (by omega) (y := 31) rfl, decide_eq_false (by omega)]; rfl
  rw [i0, bn_s, if_pos rfl, i1, bn_s, if_pos rfl, i2, bn_s, if_pos rfl, i3, bn_s, if_pos rfl, i4, bn_s, if_pos rfl, i5, bn_s, if_pos rfl, i6, bn_s, if_pos rfl, i7, bn_s, if_pos rfl, i8, bn_s, if_pos rfl]
theorem e154_f {s : Int32} {d q : Nat} (h : Rf r d q) : R_tellItem_154 s r = some ((), r) := by
  unfold R_tellItem_154
  rw [if_neg h.ne.2.1]
end Te
