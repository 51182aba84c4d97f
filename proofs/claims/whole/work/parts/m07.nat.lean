/-! rows of Math and of System.arraycopy -/
section Nat1
variable {M : MI} {pc : Nat} {ls : List (Nat × Value)} {st : List Value} {m m1 m' : Mem} {v : Option Value} {idx : Nat}
theorem Run.up2 {pc' : Nat} {st' : List Value} (h : Run M pc' ls st' m v m')
    (f : ∀ (G : GG) (α : Nat → Nat) (p : Program) (l : Launch) (e : Env) (R : Room) (s : State) (mid : MethodId) (args : Array Value) (below : List Frame) (meth : Method) (c : Code) (H : Heap) (locs : List Loc) (cells slots : Nat) (lsA : Array Slot) (Q : State → Prop), Cx G α M p R s mid args meth c → lsA.size = M.2.2.1 → cells ≤ R.cells → slots ≤ R.slots → W p l e R s mid args below meth c H locs cells slots Q (F0 mid pc' lsA (st'.map (cv G α))) → W p l e R s mid args below meth c H locs cells slots Q (F0 mid pc lsA (st.map (cv G α)))) : Run M pc ls st m v m' := by
  refine ⟨h.1, h.2.1, fun G α p l e R s mid args below meth c H locs cells slots lsA kc ks B => ?_⟩
  have g1 := h.1
  have g2 := h.2.1
  obtain ⟨-, -, L, -, -, e1, e2, r1, r2⟩ := id B
  exact f G α p l e R s mid args below meth c H locs cells slots lsA _ B.2.1 L.1 (by omega) (by omega) (h.2.2 G α p l e R s mid args below meth c H locs cells slots lsA kc ks B)
theorem r_mmax {x y : Int32} (hd : decode M.2.1 pc = .ok (.invokestatic idx, 3)) (w1 : Cond.methodLink M.1.cls idx Lib.Math.max.name ∈ g_tbl) (w2 : Cond.static Lib.Math.max.name ∈ g_tbl) (w3 : Cond.initialized "java/lang/Math" ∈ g_tbl) (w4 : Cond.code Lib.Math.max.name Lib.Math.max.code 2 (some .int) ∈ g_tbl) (hR : 1 ≤ M.2.2.2.2.1 ∧ 23 ≤ M.2.2.2.2.2) (hst : (st.map fun v => v.category).sum ≤ 8) (h : Run M (pc + 3) ls (.int (jmax x y) :: st) m v m') : Run M pc ls (.int y :: .int x :: st) m v m' :=
  h.up2 fun G α p l e R s mid args below meth c H locs cells slots lsA Q C hL hc hs q => by
    have hts := C.2.2.2.2.2.2.2.1
    exact va_mmax C.1 C.2.1 (C.2.2.1.trans hL.symm) C.2.2.2.2.2.2.1 (hts _ w1) (hts _ w2) (hts _ w3) (hts _ w4) (Nat.le_trans hR.1 C.2.2.2.2.2.2.2.2.2.1) (by have := C.2.2.2.2.2.2.2.2.2.2; rw [cat_map]; omega) hc hs hd q
theorem r_mmin {x y : Int32} (hd : decode M.2.1 pc = .ok (.invokestatic idx, 3)) (w1 : Cond.methodLink M.1.cls idx Lib.Math.min.name ∈ g_tbl) (w2 : Cond.static Lib.Math.min.name ∈ g_tbl) (w3 : Cond.initialized "java/lang/Math" ∈ g_tbl) (w4 : Cond.code Lib.Math.min.name Lib.Math.min.code 2 (some .int) ∈ g_tbl) (hR : 1 ≤ M.2.2.2.2.1 ∧ 23 ≤ M.2.2.2.2.2) (hst : (st.map fun v => v.category).sum ≤ 8) (h : Run M (pc + 3) ls (.int (jmin x y) :: st) m v m') : Run M pc ls (.int y :: .int x :: st) m v m' :=
  h.up2 fun G α p l e R s mid args below meth c H locs cells slots lsA Q C hL hc hs q => by
    have hts := C.2.2.2.2.2.2.2.1
    exact va_mmin C.1 C.2.1 (C.2.2.1.trans hL.symm) C.2.2.2.2.2.2.1 (hts _ w1) (hts _ w2) (hts _ w3) (hts _ w4) (Nat.le_trans hR.1 C.2.2.2.2.2.2.2.2.2.1) (by have := C.2.2.2.2.2.2.2.2.2.2; rw [cat_map]; omega) hc hs hd q
theorem r_mmaxL {x y : Int64} (hd : decode M.2.1 pc = .ok (.invokestatic idx, 3)) (w1 : Cond.methodLink M.1.cls idx Lib.MathLoose.max_long.x ∈ g_tbl) (w2 : Cond.static Lib.MathLoose.max_long.x ∈ g_tbl) (w3 : Cond.initialized "java/lang/Math" ∈ g_tbl) (w4 : Cond.code Lib.MathLoose.max_long.x Lib.MathLoose.max_long.code 4 (some .long) ∈ g_tbl) (hR : 1 ≤ M.2.2.2.2.1 ∧ 23 ≤ M.2.2.2.2.2) (hst : (st.map fun v => v.category).sum ≤ 8) (h : Run M (pc + 3) ls (.long (jmaxL x y) :: st) m v m') : Run M pc ls (.long y :: .long x :: st) m v m' :=
  h.up2 fun G α p l e R s mid args below meth c H locs cells slots lsA Q C hL hc hs q => by
    have hts := C.2.2.2.2.2.2.2.1
    exact va_mmax_long C.1 C.2.1 (C.2.2.1.trans hL.symm) C.2.2.2.2.2.2.1 (hts _ w1) (hts _ w2) (hts _ w3) (hts _ w4) (Nat.le_trans hR.1 C.2.2.2.2.2.2.2.2.2.1) (by have := C.2.2.2.2.2.2.2.2.2.2; rw [cat_map]; omega) hc hs hd q
theorem toInt_ix {z : Int32} (hz : ¬ z < 0) : z.toInt = (z.toNatClampNeg : Int) := by
  have h0 : (0 : Int) ≤ z.toInt := by
    have := Int32.le_iff_toInt_le.mp (Int32.not_lt.mp hz)
    simpa using this
  exact (Int.toNat_of_nonneg h0).symm
theorem r_acopy {a a0 : Nat} {sp dp n : Int32} (hm : m1 = cpI m a0 (ix sp) a (ix dp) (ix n)) (hd : decode M.2.1 pc = .ok (.invokestatic idx, 3)) (w1 : Cond.methodLink M.1.cls idx arraycopyName ∈ g_tbl) (w2 : Cond.native arraycopyName ∈ g_tbl) (w3 : Cond.static arraycopyName ∈ g_tbl) (w4 : Cond.initialized "java/lang/System" ∈ g_tbl) (hR : 1 ≤ M.2.2.2.2.1 ∧ 60 ≤ M.2.2.2.2.2) (hst : (st.map fun v => v.category).sum ≤ 8)
    (ht0 : mT m a0 = 32) (ht : mT m a = 32) (hok : cpok sp dp n (mN m a0) (mN m a) = true) (h : Run M (pc + 3) ls st m1 v m') : Run M pc ls (.int n :: .int dp :: .ref a :: .int sp :: .ref a0 :: st) m v m' := by
  subst hm
  refine ⟨h.1, h.2.1, fun G α p l e R s mid args below meth c H locs cells slots lsA kc ks B => ?_⟩
  simp only [cpok, Bool.and_eq_true, decide_eq_true_eq] at hok
  obtain ⟨⟨⟨⟨h1, h2⟩, h3⟩, h4⟩, h5⟩ := hok
  have Y := B.2.2.2.1
  have C := B.2.1
  have S := B.2.2.2.2.1
  have hts := C.2.2.2.2.2.2.2.1
  have hP0 := Y.one (Y.lt (a := a0) (by omega))
  have hP1 := Y.one (Y.lt (a := a) (by omega))
  rw [ent_int ht0] at hP0
  rw [ent_int ht] at hP1
  intro T hT X
  have c0 : T.heap[α a0]? = some (vp_cell (G.2.1 0) (mN m a0, .inl (aI m a0))) := by rw [hT]; exact hP0 0 _ rfl
  have c1 : T.heap[α a]? = some (vp_cell (G.2.1 0) (mN m a, .inl (aI m a))) := by rw [hT]; exact hP1 0 _ rfl
  obtain ⟨-, k0, hk0, cm0, hkk0⟩ := (C.2.2.2.2.2.2.2.2.1.1.2 0 _ rfl).1 (mN m a0) (fun j => .int (aI m a0 j))
  have hlo : 60 ≤ R.locals := Nat.le_trans hR.2 C.2.2.2.2.2.2.2.2.2.2
  obtain ⟨vm', X', step⟩ := X.arraycopy C.1 C.2.2.2.2.2.2.1 (hts _ w1) (hts _ w2) (hts _ w3) (hts _ w4) (srcPos := sp) (destPos := dp) (n := n) c0 c1 (fun _ h => by cases h) (fun _ h => by cases h) (fun h => by cases h) (fun h => by cases h) hk0 hk0 hkk0 hkk0 rfl h1 h2 h3
    (by rw [toInt_ix h1, toInt_ix h3]; show ¬ _ > ((arrV _ (mN m a0) _).slots.size : Int); rw [arrV_size]; unfold ix at h4; omega)
    (by rw [toInt_ix h2, toInt_ix h3]; show ¬ _ > ((arrV _ (mN m a) _).slots.size : Int); rw [arrV_size]; unfold ix at h5; omega)
    (fun vm₁ _ i hi => by
      have e : (vp_cell (G.2.1 0) (mN m a0, .inl (aI m a0))).slots.getD (sp.toNatClampNeg + i) .null = .int (aI m a0 (sp.toNatClampNeg + i)) := by
        show (arrV _ (mN m a0) (fun j => Value.int (aI m a0 j))).slots.getD _ _ = _
        rw [Array.getD_eq_getD_getElem?, arrV_read _ _ (by unfold ix at h4; omega)]
        rfl
      rw [e]
      exact ⟨rfl, trivial⟩)
    (g := F0 mid pc lsA (.int n :: .int dp :: .ref (α a) :: .int sp :: .ref (α a0) :: st.map (cv G α))) rfl (B.2.2.1.1.trans C.2.2.1.symm) (rest := st.map (cv G α)) rfl (by rw [C.2.1]; exact hd) (Nat.le_trans hR.1 C.2.2.2.2.2.2.2.2.2.1)
    (by
      have z : nativeFrameWords "java/lang/System" "arraycopy" 5 + 11 ≤ 50 := by decide +kernel
      show 2 * 0 + _ + _ ≤ _
      rw [cat_map]
      omega)
  rw [show copied (vp_cell (G.2.1 0) (mN m a0, .inl (aI m a0))) (vp_cell (G.2.1 0) (mN m a, .inl (aI m a))) sp dp n = vp_cell (G.2.1 0) (mN m a, .inl (va_cpy (aI m a0) (aI m a) sp.toNatClampNeg dp.toNatClampNeg n.toNatClampNeg)) from va_copied (fun z => .int z) _ _ _ _ h4] at X' step
  have hl : α a < H.size := (Array.getElem?_eq_some_iff.mp (hP1 0 _ rfl)).1
  generalize hcl : vp_cell (G.2.1 0) (mN m a, .inl (va_cpy (aI m a0) (aI m a) sp.toNatClampNeg dp.toNatClampNeg n.toNatClampNeg)) = cl at X' step
  have hheap : ((T.setVm vm').setCell (α a) cl).heap = H.setIfInBounds (α a) cl := by rw [← hT]; rfl
  have oq : ∀ q : Nat, q ≠ α a → (H.setIfInBounds (α a) cl)[q]? = H[q]? := fun q hq => by simp [Array.getElem?_setIfInBounds, Ne.symm hq]
  have es : (H.setIfInBounds (α a) cl).size = H.size := by simp
  have hC : ∀ b, aI (cpI m a0 (ix sp) a (ix dp) (ix n)) b = if b = a then va_cpy (aI m a0) (aI m a) (ix sp) (ix dp) (ix n) else aI m b := fun b => rfl
  have Y2 : MW G α (cpI m a0 (ix sp) a (ix dp) (ix n)) (H.setIfInBounds (α a) cl) := by
    refine Y.put B.1 es oq ?_ rfl (fun b hb => ent_congr rfl rfl (fun _ => rfl) (fun _ => rfl) (fun _ => rfl) (by rw [hC, if_neg hb]) rfl rfl) (fun b hbC hb => ?_)
    · rw [ent_int (show mT (cpI m a0 (ix sp) a (ix dp) (ix n)) a = 32 from ht), hC, if_pos rfl]
      show (H.setIfInBounds (α a) cl)[α a]? = some (vp_cell _ _)
      rw [Array.getElem?_setIfInBounds]
      simp only [hl, if_true]
      rw [← hcl]
      rfl
    · have hne : b ≠ a := fun z => by
        have := hb.1
        rw [z] at this
        omega
      exact ⟨hb.1, hb.2.1, fun j => ⟨by rw [hC, if_neg hne]; exact (hb.2.2 j).1, (hb.2.2 j).2.1, (hb.2.2 j).2.2⟩⟩
  obtain ⟨t, a1, b1⟩ := h.2.2 G α p l e R s mid args below meth c (H.setIfInBounds (α a) cl) _ cells slots lsA kc ks ⟨B.1, C, B.2.2.1, Y2, ⟨by rw [es]; exact S.1, fun q g1 g2 => by
      rw [oq q (fun z => g2 ⟨a, z⟩)]
      exact S.2.1 q g1 g2, fun q hq => by
      rcases List.mem_append.mp hq with z | z
      · exact S.2.2 q z
      · obtain ⟨y, -, hy⟩ := List.mem_map.mp z
        rw [← hy]
        exact ⟨a, rfl⟩⟩, B.2.2.2.2.2⟩ _ hheap X'
  exact ⟨t, step t a1, b1⟩
end Nat1
