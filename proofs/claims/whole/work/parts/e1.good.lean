/-! Layer C: a good TEXT, the class's side -/
/-- what the class leaves: TEXT at mC p + 1, its ITEMS at mC p, its FACT at mC p + 6 -/
def FinP (p p' : Mem) (D : Dt) (x fc k s0 v : Nat) (it ta : Nat → Nat) (od : List Nat) (o : Option Nat) (i0 : Nat) : Prop :=
  (Ch [266, 267, 641, 1415, 514, 515] [14, 15] nil p p' ∧ Top p' ∧ mC p' = mC p + 8 ∧ mS p' ≤ mS p + 300) ∧
  (∀ b, b < mC p → (∀ j, j < k → b ≠ it j) → mI p' 266 b = mI p 266 b ∧ mI p' 267 b = mI p 267 b) ∧
  (∀ j, j < k → mI p 256 (it j) = nj 40 → ∀ w, o.map (mI p 1281) = some w → AmbV D fc w (mI p 258 (it j)) p' (it j)) ∧
  (mT p' (mC p + 1) = 11 ∧ mI p' 1280 (mC p + 1) = nj s0 ∧ mI p' 1281 (mC p + 1) = nj fc ∧ mI p' 1282 (mC p + 1) = nj v ∧ mI p' 1283 (mC p + 1) = mI p 785 22 ∧ mI p' 1284 (mC p + 1) = mI p 786 22 ∧ mI p' 1292 (mC p + 1) = 0 ∧ mR p' 1285 (mC p + 1) = o ∧ mR p' 1286 (mC p + 1) = some (mC p) ∧ mT p' (mC p) = 36 ∧ mN p' (mC p) = k ∧ (∀ j, j < k → aR p' (mC p) j = some (it j)) ∧
    mR p' 1288 (mC p + 1) = some (mC p + 2) ∧ mR p' 1289 (mC p + 1) = some (mC p + 3) ∧ mR p' 1290 (mC p + 1) = some (mC p + 4) ∧ mR p' 1291 (mC p + 1) = some (mC p + 5) ∧ mT p' (mC p + 2) = 36 ∧ mT p' (mC p + 3) = 36 ∧ mT p' (mC p + 4) = 32 ∧ mT p' (mC p + 5) = 32 ∧ (s0 = 0 ∨ s0 = 3 → mN p' (mC p + 2) = 60 ∧ mN p' (mC p + 3) = 60 ∧ mN p' (mC p + 4) = 60 ∧ mN p' (mC p + 5) = 60) ∧ mN p' (mC p + 5) ≤ 60 ∧ ∀ j, aI p' (mC p + 4) j = 0) ∧
  (mT p' (mC p + 6) = 1 ∧ mR p' 5 (mC p + 6) = some (mC p + 7) ∧ mT p' (mC p + 7) = 32 ∧ mI p' 0 (mC p + 6) = nj s0 ∧ mR p' 6 (mC p + 6) = some (mC p + 1)) ∧
  (mI p' 514 13 = nj (fc + 1) ∧ mI p' 515 13 = nj (x + 1) ∧ aR p' 14 = up1 (aR p 14) fc (some (mC p + 6)) ∧ (∀ j, j ≤ x → aR p' 15 j = if j < i0 then aR p 15 j else if j = i0 then some (mC p + 1) else aR p 15 (j - 1)) ∧ i0 ≤ x ∧ (i0 = 0 ∨ ∃ q, od[i0 - 1]? = some q ∧ D.1 11 q ≤ mI p 786 22) ∧ ∀ j q, i0 ≤ j → od[j]? = some q → ¬ D.1 11 q ≤ mI p 786 22)
theorem good_p {p : Mem} {D : Dt} {x k fc s0 v nc : Nat} {it fa ta ia sa ca : Nat → Nat} {od : List Nat} (T : Top p) (L : Lk fa ta ia sa ca od p D) (W : WText D nc) (hx : D.2.1 = x) (hx2 : x ≤ 23) (hfc : D.2.2 = fc) (h160 : fc < 160) (hk : k ≤ 30) (h782 : mI p 782 22 = nj k) (hI : ∀ j, j < k → aR p 24 j = some (it j) ∧ mT p (it j) = 3) (inj : ∀ j j', j < k → j' < k → it j = it j' → j = j') (hs0 : s0 < 4) (h783 : mI p 783 22 = nj s0) (h514 : mI p 514 13 = nj fc) (h784 : mI p 784 22 = nj v) (h266 : ∀ j, j < k → mI p 266 (it j) = 1 ∧ mI p 267 (it j) = 0) {o : Option Nat} (ho : o = if s0 = 0 then none else (awd D (nj v)).map ta)
    (h773 : mI p 773 22 = 0) (h774 : mI p 774 22 = -1) (h776 : mI p 776 22 = 0) (h778 : mI p 778 22 = -1) :
    ∃ i0 p', P_read_60 1 p = some (0, p') ∧ FinP p p' D x fc k s0 v it ta od o i0 ∧ mI p' 641 16 = 0 ∧ mI p' 1415 0 = -1 := by
  have T1 := T.1
  obtain ⟨m, b1, b2⟩ := madeP_e (v := v) T L W hfc (by omega) hk h782 hI inj hs0 h783 h514 h784 h266 ho
  obtain ⟨m1, m2, m3, m4, m5, m6, m7, m8, m9⟩ := b2
  have eF : P_Parser_finish 1 p = P_Parser_made p := by
    unfold P_Parser_finish P_Parser_finish_30 P_Parser_finish_56
    rw [if_neg (show ¬ (1 : Int32) = 0 by decide), if_pos h776, if_neg (show ¬ (1 : Int32) = 0 by decide), if_pos h778, if_neg (show ¬ (1 : Int32) = 0 by decide), if_pos h773]
    generalize P_Parser_made p = y
    cases y with
    | none => rfl
    | some q => rfl
  have eC : mC m = mC p + 1 := m2
  -- the TEXT
  have xC := txP_C (m := m) (s := nj s0) (f := nj fc) (n := nj v) (g := mI p 785 22) (fr := mI p 786 22) (o := o) (A := mC p) (z := if s0 = 0 ∨ s0 = 3 then 60 else 0)
  have xCh := txP_Ch (m := m) (s := nj s0) (f := nj fc) (n := nj v) (g := mI p 785 22) (fr := mI p 786 22) (o := o) (A := mC p) (z := if s0 = 0 ∨ s0 = 3 then 60 else 0)
  have xt := txP_t (m := m) (s := nj s0) (f := nj fc) (n := nj v) (g := mI p 785 22) (fr := mI p 786 22) (o := o) (A := mC p) (z := if s0 = 0 ∨ s0 = 3 then 60 else 0)
  have xf := txP_f (m := m) (s := nj s0) (f := nj fc) (n := nj v) (g := mI p 785 22) (fr := mI p 786 22) (o := o) (A := mC p) (z := if s0 = 0 ∨ s0 = 3 then 60 else 0)
  have x0 := txP_0 (m := m) (s := nj s0) (f := nj fc) (n := nj v) (g := mI p 785 22) (fr := mI p 786 22) (o := o) (A := mC p) (z := if s0 = 0 ∨ s0 = 3 then 60 else 0)
  have hz60 : (if s0 = 0 ∨ s0 = 3 then 60 else 0) ≤ 60 := by split <;> omega
  have hz1 : s0 = 0 ∨ s0 = 3 → (if s0 = 0 ∨ s0 = 3 then 60 else 0) = 60 := fun w => if_pos w
  generalize (if s0 = 0 ∨ s0 = 3 then 60 else 0) = z at *
  generalize txP m (nj s0) (nj fc) (nj v) (mI p 785 22) (mI p 786 22) o (mC p) z = q1 at *
  rw [eC] at xC xt xf x0
  have xC1 : mC q1 = mC p + 6 := by omega
  -- the tape and the place
  have c8 : Ch [641, 1415] [] nil q1 (sI (sI q1 641 16 0) 1415 0 (-1)) := (Ch.rfl.sI (by decide)).sI (by decide)
  have f8 : ∀ f, f ≠ 641 → f ≠ 1415 → mI (sI (sI q1 641 16 0) 1415 0 (-1)) f = mI q1 f := fun f f1 f2 => by rw [k_mI_sI f2, k_mI_sI f1]
  have e641 : mI (sI (sI q1 641 16 0) 1415 0 (-1)) 641 16 = 0 := by rw [k_mI_sI (by omega), k_mI_sI_e, up1_ap, if_pos rfl]
  have e1415 : mI (sI (sI q1 641 16 0) 1415 0 (-1)) 1415 0 = -1 := by rw [k_mI_sI_e, up1_ap, if_pos rfl]
  have o8 : mC (sI (sI q1 641 16 0) 1415 0 (-1)) = mC q1 ∧ mS (sI (sI q1 641 16 0) 1415 0 (-1)) = mS q1 ∧ mT (sI (sI q1 641 16 0) 1415 0 (-1)) = mT q1 ∧ mN (sI (sI q1 641 16 0) 1415 0 (-1)) = mN q1 ∧ mR (sI (sI q1 641 16 0) 1415 0 (-1)) = mR q1 ∧ aR (sI (sI q1 641 16 0) 1415 0 (-1)) = aR q1 ∧ aI (sI (sI q1 641 16 0) 1415 0 (-1)) = aI q1 := by
    rw [k_mC_sI, k_mC_sI, k_mS_sI, k_mS_sI, k_mT_sI, k_mT_sI, k_mN_sI, k_mN_sI, k_mR_sI, k_mR_sI, k_aR_sI, k_aR_sI, k_aI_sI, k_aI_sI]
    exact ⟨rfl, rfl, rfl, rfl, rfl, rfl, rfl⟩
  have e774 : mI (sI q1 641 16 0) 774 22 = -1 := by rw [k_mI_sI (by omega), xCh.i (by decide) (by omega), m1.i (by decide) (by omega)]; exact h774
  have eQ : ∀ K : Mem → Option (Int32 × Mem), (vb (sI q1 641 16 0) fun m6 => vb (sI m6 1415 0 (mI m6 774 22)) fun m8 => K m8) = K (sI (sI q1 641 16 0) 1415 0 (-1)) := fun K => by rw [vb_e, vb_e, e774]
  generalize sI (sI q1 641 16 0) 1415 0 (-1) = q8 at *
  have C8 : Ch [266, 267, 641, 1415] [] nil p q8 := Ch.trans (m1.mono (by decide) (fun _ h => h) (fun _ h => h)) (Ch.trans (xCh.mono (fun _ h => absurd h List.not_mem_nil) (fun _ h => h) (fun _ h => h)) (c8.mono (by decide) (fun _ h => h) (fun _ h => h)))
  have T8 : Top q8 := T.Ch C8
  have L2 : LText ta ia q8 D := L.2.1.Ch T C8 (by decide) (fun a _ => List.not_mem_nil) (fun _ _ => nil_no)
  have L3 : LOrd ta od q8 D := L.2.2.1.Ch T C8 List.not_mem_nil nil_no
  obtain ⟨xt1, xt2, xt3, xt4, xt5, xt6, xt7, xt8, xt9⟩ := xt
  obtain ⟨xf1, xf2, xf3, xf4, xf5, xf6, xf7, xf8, xf9, xf10, xf11, xf12⟩ := xf
  obtain ⟨i0, p', d1, d2, d3, d4, d5, d6, d7, d8, d9, d10, d11, d12, d13, d14, d15, d16, d17⟩ := enter_e (t := mC p + 1) (fc := fc) (s := nj s0) (n := nj v) (fr := mI p 786 22) T8 L2 L3 hx hx2 (by rw [C8.i (by decide) (by omega)]; exact h514) h160 (by rw [o8.2.2.1]; exact xt1) (by rw [f8 1280 (by omega) (by omega)]; exact xf1) (by rw [f8 1282 (by omega) (by omega)]; exact xf3) (by rw [f8 1284 (by omega) (by omega)]; exact xf5)
  have c6 : mC q8 = mC p + 6 := by omega
  rw [c6] at d4 d8 d10 d11 d12 d13 d14
  have CC : Ch [266, 267, 641, 1415, 514, 515] [14, 15] nil p p' := Ch.trans (C8.mono (by decide) (fun _ h => absurd h List.not_mem_nil) (fun _ h => h)) (d3.mono (by decide) (fun _ h => h) (fun _ h => h))
  have i8 : ∀ f b, f ≠ 514 → f ≠ 515 → b < mC p + 6 → mI p' f b = mI q8 f b := fun f b f1 f2 hb => d3.i (by simp only [List.mem_cons, List.not_mem_nil, or_false]; omega) (by omega)
  have r8 : ∀ f b, f ≠ 514 → f ≠ 515 → b < mC p + 6 → mR p' f b = mR q8 f b := fun f b f1 f2 hb => d3.r (by simp only [List.mem_cons, List.not_mem_nil, or_false]; omega) (by omega)
  have t8 : ∀ b, b < mC p + 6 → mT p' b = mT q1 b ∧ mN p' b = mN q1 b := fun b hb => by rw [d3.t (by omega), d3.n (by omega), o8.2.2.1, o8.2.2.2.1]; exact ⟨rfl, rfl⟩
  have e266 : ∀ f b, 256 ≤ f → f ≤ 268 → b < mC p → mI p' f b = mI m f b := fun f b f1 f2 hb => by rw [i8 f b (by omega) (by omega) (by omega), f8 f (by omega) (by omega), xCh.i List.not_mem_nil (by omega)]
  have hIlt : ∀ j, j < k → it j < mC p := fun j hj => T.lt (by rw [(hI j hj).2]; decide)
  have tf : ∀ f, 1280 ≤ f → f ≤ 1296 → mI p' f (mC p + 1) = mI q1 f (mC p + 1) ∧ mR p' f (mC p + 1) = mR q1 f (mC p + 1) := fun f f1 f2 => by rw [i8 f _ (by omega) (by omega) (by omega), r8 f _ (by omega) (by omega) (by omega), f8 f (by omega) (by omega), o8.2.2.2.2.1]; exact ⟨rfl, rfl⟩
  refine ⟨i0, p', ?_, ⟨⟨CC, d17, by omega, by omega⟩, fun b hb hj => by rw [e266 266 b (by omega) (by omega) hb, e266 267 b (by omega) (by omega) hb]; exact m7 b hb hj, fun j hj h256 w hw => (m9 j hj h256 w hw).same (e266 266 _ (by omega) (by omega) (hIlt j hj)) (e266 267 _ (by omega) (by omega) (hIlt j hj)), ⟨?_, ?_, ?_, ?_, ?_, ?_, ?_, ?_, ?_, ?_, ?_, fun j hj => ?_, ?_, ?_, ?_, ?_, ?_, ?_, ?_, ?_, fun w => ?_, ?_, fun j => ?_⟩, ⟨d10, d11, d12, d13, d14⟩, ⟨d6, d7, by rw [d8, C8.ar List.not_mem_nil (fun w => w) (by omega)], fun j hj => by rw [d9 j hj, C8.ar List.not_mem_nil (fun w => w) (by omega)], d1, d15, d16⟩⟩, by rw [i8 641 16 (by omega) (by omega) (by omega)]; exact e641, by rw [i8 1415 0 (by omega) (by omega) (by omega)]; exact e1415⟩
  · unfold P_read_60 P_read_101
    rw [eF, b1, bn_s, eQ, if_neg (by simp), d2, bn_s, CC.i (by decide) (by omega), h773]
  · rw [(t8 _ (by omega)).1]; exact xt1
  · rw [(tf 1280 (by omega) (by omega)).1]; exact xf1
  · rw [(tf 1281 (by omega) (by omega)).1]; exact xf2
  · rw [(tf 1282 (by omega) (by omega)).1]; exact xf3
  · rw [(tf 1283 (by omega) (by omega)).1]; exact xf4
  · rw [(tf 1284 (by omega) (by omega)).1]; exact xf5
  · rw [(tf 1292 (by omega) (by omega)).1]; exact xf6
  · rw [(tf 1285 (by omega) (by omega)).2]; exact xf7
  · rw [(tf 1286 (by omega) (by omega)).2]; exact xf8
  · rw [(t8 _ (by omega)).1, xCh.t (by omega)]; exact m4
  · rw [(t8 _ (by omega)).2, xCh.n (by omega)]; exact m5
  · rw [d3.ar (by simp only [List.mem_cons, List.not_mem_nil, or_false]; omega) (fun w => w) (by omega), o8.2.2.2.2.2.1, xCh.ar List.not_mem_nil (fun w => w) (by omega)]; exact m6 j hj
  · rw [(tf 1288 (by omega) (by omega)).2]; exact xf9
  · rw [(tf 1289 (by omega) (by omega)).2]; exact xf10
  · rw [(tf 1290 (by omega) (by omega)).2]; exact xf11
  · rw [(tf 1291 (by omega) (by omega)).2]; exact xf12
  · rw [(t8 _ (by omega)).1]; exact xt2
  · rw [(t8 _ (by omega)).1]; exact xt3
  · rw [(t8 _ (by omega)).1]; exact xt4
  · rw [(t8 _ (by omega)).1]; exact xt5
  · rw [(t8 _ (by omega)).2, (t8 _ (by omega)).2, (t8 _ (by omega)).2, (t8 _ (by omega)).2, xt6, xt7, xt8, xt9, hz1 w]; exact ⟨rfl, rfl, rfl, rfl⟩
  · rw [(t8 _ (by omega)).2, xt9]; exact hz60
  · rw [d3.ai (by simp only [List.mem_cons, List.not_mem_nil, or_false]; omega) (fun w => w) (by omega), o8.2.2.2.2.2.2]; exact x0 j
