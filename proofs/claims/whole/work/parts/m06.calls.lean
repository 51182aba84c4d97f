/-! rows of making, returns, calls -/
section Make
variable {M : MI} {pc : Nat} {ls : List (Nat × Value)} {st : List Value} {m m' : Mem} {v : Option Value} {G : GG} {α : Nat → Nat} {H H1 : Heap} {t n z : Nat}
/-- a new cell was blank before -/
def nwO (m : Mem) (t n z : Nat) : Mem := (up1 (mT m) (mC m) t, up1 (mN m) (mC m) n, mI m, mL m, mR m, aI m, aL m, aR m, mC m + 1, mS m + z)
theorem zF_blk {β : Type} {t a : Nat} {g : Nat → Nat → β} {v : β} (h : ∀ f, g f a = v) : zF t g a v = g := by
  unfold zF
  split
  · funext f b
    show (if b = a then v else g f b) = g f b
    by_cases q : b = a
    · rw [if_pos q, q, h f]
    · rw [if_neg q]
  · rfl
theorem zA_blk {β : Type} {t a : Nat} {g : Nat → Nat → β} {v : β} (h : ∀ j, g a j = v) : zA t g a v = g := by
  unfold zA
  split
  · rfl
  · funext b j
    show (if b = a then fun _ => v else g b) j = g b j
    by_cases q : b = a
    · rw [if_pos q, q, h j]
    · rw [if_neg q]
theorem nw_old {m : Mem} {t n z : Nat} (h : Blk m (mC m)) : nw m t n z = nwO m t n z := by
  obtain ⟨-, h1, h2⟩ := h
  unfold nw nwO
  rw [zF_blk (fun f => (h1 f).1), zF_blk (fun f => (h1 f).2.1), zF_blk (fun f => (h1 f).2.2), zA_blk (fun j => (h2 j).1), zA_blk (fun j => (h2 j).2.1), zA_blk (fun j => (h2 j).2.2)]
theorem MW.push (hM : MW G α m H) (z1 : H1.size = H.size + 1) (o1 : ∀ q : Nat, q < H.size → H1[q]? = H[q]?) (he : va_at G.1 q_cl (H.size, enM G α (nw m t n z) (mC m)) H1) : MW G α (nw m t n z) H1 := by
  have h0 : α (mC m) = H.size := hM.2.1 0
  rw [nw_old (hM.2.2 _ (Nat.le_refl _))] at he ⊢
  refine ⟨fun a ha => ?_, fun j => ?_, fun a ha => ?_⟩
  · have ha : a < mC m + 1 := ha
    by_cases q : a = mC m
    · subst q; rw [h0]; exact he
    · have e : enM G α (nwO m t n z) a = enM G α m a := ent_congr (up1_ne q) (up1_ne q) (fun _ => rfl) (fun _ => rfl) (fun _ => rfl) rfl rfl rfl
      rw [e]
      have w := hM.1 a (by omega)
      exact w.kept (o1 _ w.lt)
  · have h := hM.2.1 (j + 1)
    show α (mC m + 1 + j) = _
    rw [show mC m + 1 + j = mC m + (j + 1) by omega, h, z1]
    omega
  · have ha : mC m + 1 ≤ a := ha
    have hb := hM.2.2 a (by omega)
    exact ⟨(up1_ne (by omega)).trans hb.1, hb.2.1, hb.2.2⟩
theorem Bx.push {p : Program} {R : Room} {s : State} {mid : MethodId} {args : Array Value} {meth : Method} {c : Code} {locs : List Loc} {cells slots : Nat} {lsA : Array Slot} {kc ks : Nat} (B : Bx G α M ls m m' p R s mid args meth c H locs cells slots lsA kc ks)
    (z1 : H1.size = H.size + 1) (o1 : ∀ q : Nat, q < H.size → H1[q]? = H[q]?) (he : va_at G.1 q_cl (H.size, enM G α (nw m t n z) (mC m)) H1) : Bx G α M ls (nw m t n z) m' p R s mid args meth c H1 locs (cells + 1) (slots + z) lsA kc ks := by
  obtain ⟨J, C, L, Y, S, e1, f1, r1, r2⟩ := B
  refine ⟨J, C, L, Y.push z1 o1 he, ⟨by have := S.1; omega, fun q h1 h2 => (o1 q (Nat.lt_of_lt_of_le h1 S.1)).trans (S.2.1 q h1 h2), S.2.2⟩, ?_, ?_, r1, r2⟩
  · show cells + 1 + mC m' = kc + (mC m + 1); omega
  · show slots + z + mS m' = ks + (mS m + z); omega
theorem inb_room {i : Int32} (h : inb i 65536 = true) : ¬ i < 0 ∧ ix i < 65536 := ⟨fun q => inb_vp h (Or.inl q), Nat.not_le.mp fun q => inb_vp h (Or.inr q)⟩
theorem r_newI {i : Int32} (hd : decode M.2.1 pc = .ok (.newarray .int, 2)) (hw : Cond.arrayClass .int ∈ g_tbl) (hn : inb i 65536 = true) (h : Run M (pc + 2) ls (.ref (mC m) :: st) (nw m 32 (ix i) (ix i)) v m') : Run M pc ls (.int i :: st) m v m' := by
  refine ⟨Nat.le_trans (Nat.le_succ _) h.1, Nat.le_trans (Nat.le_add_right _ _) h.2.1, fun G α p l e R s mid args below meth c H locs cells slots lsA kc ks B => ?_⟩
  have Y := B.2.2.2.1
  have C := B.2.1
  have g1 : mC m + 1 ≤ mC m' := h.1
  have g2 : mS m + ix i ≤ mS m' := h.2.1
  have g3 := inb_room hn
  have h0 : α (mC m) = H.size := Y.2.1 0
  refine va_newaK (atype := .int) C.1 C.2.1 (C.2.2.2.2.2.2.2.1 _ hw) rfl hd rfl g3.1 rfl (by show ix i * _ ≤ _; simp only [newarray.typeOf, componentBytes]; omega) (by have := B.2.2.2.2.2; omega) (by show slots + ix i ≤ _; have := B.2.2.2.2.2; omega) rfl fun H1 cA e1 z1 o1 hAr hNm => ?_
  have hcA : cA = G.2.1 0 := by
    have q := (C.2.2.2.2.2.2.2.2.1.1.2 0 _ rfl).2
    exact Option.some.inj (hNm.symm.trans q)
  subst hcA
  have hE := h.2.2 G α p l e R s mid args below meth c H1 locs (cells + 1) (slots + ix i) lsA kc ks (B.push z1 o1 (by
    rw [ent_int (show mT (nw m 32 (ix i) (ix i)) (mC m) = 32 from up1_eq)]
    show H1[H.size]? = some (vp_cell _ _)
    rw [vp_cell_i, e1]
    have q1 : mN (nw m 32 (ix i) (ix i)) (mC m) = ix i := up1_eq
    have q2 : ∀ j, aI (nw m 32 (ix i) (ix i)) (mC m) j = 0 := fun j => by rw [nw_old (Y.2.2 _ (Nat.le_refl _))]; exact ((Y.2.2 (mC m) (Nat.le_refl _)).2.2 j).1
    rw [q1]
    simp only [q2]
    rfl))
  rw [List.map_cons, show cv G α (.ref (mC m)) = .ref H.size by rw [← h0]; rfl] at hE
  exact hE
theorem r_newB {i : Int32} (hd : decode M.2.1 pc = .ok (.newarray .byte, 2)) (hw : Cond.arrayClass .byte ∈ g_tbl) (hn : inb i 65536 = true) (h : Run M (pc + 2) ls (.ref (mC m) :: st) (nw m 33 (ix i) (ix i)) v m') : Run M pc ls (.int i :: st) m v m' := by
  refine ⟨Nat.le_trans (Nat.le_succ _) h.1, Nat.le_trans (Nat.le_add_right _ _) h.2.1, fun G α p l e R s mid args below meth c H locs cells slots lsA kc ks B => ?_⟩
  have Y := B.2.2.2.1
  have C := B.2.1
  have g1 : mC m + 1 ≤ mC m' := h.1
  have g2 : mS m + ix i ≤ mS m' := h.2.1
  have g3 := inb_room hn
  have h0 : α (mC m) = H.size := Y.2.1 0
  refine va_newaK (atype := .byte) C.1 C.2.1 (C.2.2.2.2.2.2.2.1 _ hw) rfl hd rfl g3.1 rfl (by show ix i * _ ≤ _; simp only [newarray.typeOf, componentBytes]; omega) (by have := B.2.2.2.2.2; omega) (by show slots + ix i ≤ _; have := B.2.2.2.2.2; omega) rfl fun H1 cA e1 z1 o1 hAr hNm => ?_
  have hcA : cA = G.2.1 1 := by
    have q := (C.2.2.2.2.2.2.2.2.1.1.2 1 _ rfl).2
    exact Option.some.inj (hNm.symm.trans q)
  subst hcA
  have hE := h.2.2 G α p l e R s mid args below meth c H1 locs (cells + 1) (slots + ix i) lsA kc ks (B.push z1 o1 (by
    rw [ent_byte (show mT (nw m 33 (ix i) (ix i)) (mC m) = 33 from up1_eq)]
    show H1[H.size]? = some (vp_cell _ _)
    rw [vp_cell_i, e1]
    have q1 : mN (nw m 33 (ix i) (ix i)) (mC m) = ix i := up1_eq
    have q2 : ∀ j, aI (nw m 33 (ix i) (ix i)) (mC m) j = 0 := fun j => by rw [nw_old (Y.2.2 _ (Nat.le_refl _))]; exact ((Y.2.2 (mC m) (Nat.le_refl _)).2.2 j).1
    rw [q1]
    simp only [q2]
    rfl))
  rw [List.map_cons, show cv G α (.ref (mC m)) = .ref H.size by rw [← h0]; rfl] at hE
  exact hE
theorem r_newZ {i : Int32} (hd : decode M.2.1 pc = .ok (.newarray .boolean, 2)) (hw : Cond.arrayClass .boolean ∈ g_tbl) (hn : inb i 65536 = true) (h : Run M (pc + 2) ls (.ref (mC m) :: st) (nw m 34 (ix i) (ix i)) v m') : Run M pc ls (.int i :: st) m v m' := by
  refine ⟨Nat.le_trans (Nat.le_succ _) h.1, Nat.le_trans (Nat.le_add_right _ _) h.2.1, fun G α p l e R s mid args below meth c H locs cells slots lsA kc ks B => ?_⟩
  have Y := B.2.2.2.1
  have C := B.2.1
  have g1 : mC m + 1 ≤ mC m' := h.1
  have g2 : mS m + ix i ≤ mS m' := h.2.1
  have g3 := inb_room hn
  have h0 : α (mC m) = H.size := Y.2.1 0
  refine va_newaK (atype := .boolean) C.1 C.2.1 (C.2.2.2.2.2.2.2.1 _ hw) rfl hd rfl g3.1 rfl (by show ix i * _ ≤ _; simp only [newarray.typeOf, componentBytes]; omega) (by have := B.2.2.2.2.2; omega) (by show slots + ix i ≤ _; have := B.2.2.2.2.2; omega) rfl fun H1 cA e1 z1 o1 hAr hNm => ?_
  have hcA : cA = G.2.1 2 := by
    have q := (C.2.2.2.2.2.2.2.2.1.1.2 2 _ rfl).2
    exact Option.some.inj (hNm.symm.trans q)
  subst hcA
  have hE := h.2.2 G α p l e R s mid args below meth c H1 locs (cells + 1) (slots + ix i) lsA kc ks (B.push z1 o1 (by
    rw [ent_bool (show mT (nw m 34 (ix i) (ix i)) (mC m) = 34 from up1_eq)]
    show H1[H.size]? = some (vp_cell _ _)
    rw [vp_cell_i, e1]
    have q1 : mN (nw m 34 (ix i) (ix i)) (mC m) = ix i := up1_eq
    have q2 : ∀ j, aI (nw m 34 (ix i) (ix i)) (mC m) j = 0 := fun j => by rw [nw_old (Y.2.2 _ (Nat.le_refl _))]; exact ((Y.2.2 (mC m) (Nat.le_refl _)).2.2 j).1
    rw [q1]
    simp only [q2]
    rfl))
  rw [List.map_cons, show cv G α (.ref (mC m)) = .ref H.size by rw [← h0]; rfl] at hE
  exact hE
theorem r_newL {i : Int32} (hd : decode M.2.1 pc = .ok (.newarray .long, 2)) (hw : Cond.arrayClass .long ∈ g_tbl) (hn : inb i 65536 = true) (h : Run M (pc + 2) ls (.ref (mC m) :: st) (nw m 35 (ix i) (ix i)) v m') : Run M pc ls (.int i :: st) m v m' := by
  refine ⟨Nat.le_trans (Nat.le_succ _) h.1, Nat.le_trans (Nat.le_add_right _ _) h.2.1, fun G α p l e R s mid args below meth c H locs cells slots lsA kc ks B => ?_⟩
  have Y := B.2.2.2.1
  have C := B.2.1
  have g1 : mC m + 1 ≤ mC m' := h.1
  have g2 : mS m + ix i ≤ mS m' := h.2.1
  have g3 := inb_room hn
  have h0 : α (mC m) = H.size := Y.2.1 0
  refine va_newaK (atype := .long) C.1 C.2.1 (C.2.2.2.2.2.2.2.1 _ hw) rfl hd rfl g3.1 rfl (by show ix i * _ ≤ _; simp only [newarray.typeOf, componentBytes]; omega) (by have := B.2.2.2.2.2; omega) (by show slots + ix i ≤ _; have := B.2.2.2.2.2; omega) rfl fun H1 cA e1 z1 o1 hAr hNm => ?_
  have hcA : cA = G.2.1 3 := by
    have q := (C.2.2.2.2.2.2.2.2.1.1.2 3 _ rfl).2
    exact Option.some.inj (hNm.symm.trans q)
  subst hcA
  have hE := h.2.2 G α p l e R s mid args below meth c H1 locs (cells + 1) (slots + ix i) lsA kc ks (B.push z1 o1 (by
    rw [ent_long (show mT (nw m 35 (ix i) (ix i)) (mC m) = 35 from up1_eq)]
    show H1[H.size]? = some (vp_cell _ _)
    rw [vp_cell_l, e1]
    have q1 : mN (nw m 35 (ix i) (ix i)) (mC m) = ix i := up1_eq
    have q2 : ∀ j, aL (nw m 35 (ix i) (ix i)) (mC m) j = 0 := fun j => by rw [nw_old (Y.2.2 _ (Nat.le_refl _))]; exact ((Y.2.2 (mC m) (Nat.le_refl _)).2.2 j).2.1
    rw [q1]
    simp only [q2]
    rfl))
  rw [List.map_cons, show cv G α (.ref (mC m)) = .ref H.size by rw [← h0]; rfl] at hE
  exact hE
/-- an array of references -/
theorem r_newR {i : Int32} {idx j : Nat} {C0 : String} (hj : (j = 0 ∧ C0 = q_R2) ∨ (j = 1 ∧ C0 = q_R10) ∨ (j = 2 ∧ C0 = q_R0)) (hd : decode M.2.1 pc = .ok (.anewarray idx, 3)) (hw : Cond.classLink M.1.cls idx C0 ∈ g_tbl) (hn : inb i 65536 = true) (h : Run M (pc + 3) ls (.ref (mC m) :: st) (nw m (36 + j) (ix i) (ix i)) v m') : Run M pc ls (.int i :: st) m v m' := by
  refine ⟨Nat.le_trans (Nat.le_succ _) h.1, Nat.le_trans (Nat.le_add_right _ _) h.2.1, fun G α p l e R s mid args below meth c H locs cells slots lsA kc ks B => ?_⟩
  have Y := B.2.2.2.1
  have C := B.2.1
  have g1 : mC m + 1 ≤ mC m' := h.1
  have g2 : mS m + ix i ≤ mS m' := h.2.1
  have g3 := inb_room hn
  have h0 : α (mC m) = H.size := Y.2.1 0
  have hao : va_AO C0 s ∧ va_RA s (G.2.1 (4 + j)) (.object C0) := by
    obtain ⟨a1, a2, a3⟩ := C.2.2.2.2.2.2.2.2.1.2.2.1
    rcases hj with ⟨rfl, rfl⟩ | ⟨rfl, rfl⟩ | ⟨rfl, rfl⟩
    · exact ⟨a1, (C.2.2.2.2.2.2.2.2.1.1.2 4 _ rfl).2⟩
    · exact ⟨a2, (C.2.2.2.2.2.2.2.2.1.1.2 5 _ rfl).2⟩
    · exact ⟨a3, (C.2.2.2.2.2.2.2.2.1.1.2 6 _ rfl).2⟩
  refine W.anew C.1 C.2.1 C.2.2.2.2.2.2.1 (C.2.2.2.2.2.2.2.1 _ hw) (va_AO.use hao.1) rfl hd rfl g3.1 (by show ix i * 4 ≤ _; omega) (by have := B.2.2.2.2.2; omega) (by show slots + ix i ≤ _; have := B.2.2.2.2.2; omega) fun cA kA comp f1 f2 f3 f4 => ?_
  have hcA : cA = G.2.1 (4 + j) := by
    obtain ⟨_, _, -, -, -, q⟩ := hao.2
    exact Option.some.inj (f1.symm.trans q)
  subst hcA
  generalize hH1 : H.push ({ cls := G.2.1 (4 + j), slots := Array.replicate i.toNatClampNeg .null, vm := .none } : Cell) = H1
  have z1 : H1.size = H.size + 1 := by rw [← hH1, Array.size_push]
  have e1 : H1[H.size]? = some (arrV (G.2.1 (4 + j)) i.toNatClampNeg (fun _ => .null)) := by rw [← hH1, Array.getElem?_push_size, ← arrV_new]
  have o1 : ∀ q : Nat, q < H.size → H1[q]? = H[q]? := fun q hq => by rw [← hH1, Array.getElem?_push, if_neg (Nat.ne_of_lt hq)]
  have hE := h.2.2 G α p l e R s mid args below meth c H1 locs (cells + 1) (slots + ix i) lsA kc ks (B.push z1 o1 (by
    rw [ent_refs (show mT (nw m (36 + j) (ix i) (ix i)) (mC m) = 36 + j from up1_eq)]
    show H1[H.size]? = some (vp_cell _ _)
    rw [vp_cell_q, e1]
    have q1 : mN (nw m (36 + j) (ix i) (ix i)) (mC m) = ix i := up1_eq
    have q2 : ∀ k, aR (nw m (36 + j) (ix i) (ix i)) (mC m) k = none := fun k => by rw [nw_old (Y.2.2 _ (Nat.le_refl _))]; exact ((Y.2.2 (mC m) (Nat.le_refl _)).2.2 k).2.2
    rw [q1]
    simp only [q2]
    rfl))
  rw [List.map_cons, show cv G α (.ref (mC m)) = .ref H.size by rw [← h0]; rfl] at hE
  exact hE
/-- an object -/
def lkN (own : String) (idx ci N : Nat) : Prop := ci < 31 ∧ ∃ (C0 : String) (T : u_T), q_cl[ci]? = some (C0, T, N) ∧ Cond.classLink own idx C0 ∈ g_tbl ∧ Cond.instantiable C0 N ∈ g_tbl ∧ Cond.initialized C0 ∈ g_tbl ∧ ∀ k, k < N → fkd (q_ty ci k) ≠ 4
theorem r_new {idx ci N : Nat} (hd : decode M.2.1 pc = .ok (.new idx, 3)) (hl : lkN M.1.cls idx ci N) (h : Run M (pc + 3) ls (.ref (mC m) :: st) (nw m (ci + 1) 0 N) v m') : Run M pc ls st m v m' := by
  refine ⟨Nat.le_trans (Nat.le_succ _) h.1, Nat.le_trans (Nat.le_add_right _ _) h.2.1, fun G α p l e R s mid args below meth c H locs cells slots lsA kc ks B => ?_⟩
  obtain ⟨hci, C0, T, hc, w1, w2, w3, hf⟩ := hl
  have Y := B.2.2.2.1
  have C := B.2.1
  have g1 : mC m + 1 ≤ mC m' := h.1
  have g2 : mS m + N ≤ mS m' := h.2.1
  have h0 : α (mC m) = H.size := Y.2.1 0
  have hKn := C.2.2.2.2.2.2.2.2.1.1.1 ci _ hc
  refine W.newcK C.1 C.2.1 C.2.2.2.2.2.2.1 (C.2.2.2.2.2.2.2.1 _ w1) (C.2.2.2.2.2.2.2.1 _ w2) (C.2.2.2.2.2.2.2.1 _ w3) rfl hd (by have := B.2.2.2.2.2; omega) (by have := B.2.2.2.2.2; omega) hKn.2.1 rfl fun H1 kC hkC e1 z1 o1 => ?_
  have hE := h.2.2 G α p l e R s mid args below meth c H1 locs (cells + 1) (slots + N) lsA kc ks (B.push z1 o1 (by
    rw [ent_obj (show mT (nw m (ci + 1) 0 N) (mC m) = ci + 1 from up1_eq) hci]
    refine ⟨_, hc, (u_born (q_ty ci) C.2.2.2.2.2.2.2.1 (q_ok ci _ hc).1 hKn hkC e1 (q_ok ci _ hc).2.1).to (fun k hk => ?_)⟩
    have hk : k < N := hk
    rw [q_sz_of hc]
    have hb := Y.2.2 (mC m) (Nat.le_refl _)
    have q1 := (hb.2.1 (128 * ci + k)).1
    have q2 := (hb.2.1 (128 * ci + k)).2.1
    have q3 := (hb.2.1 (128 * ci + k)).2.2
    have e0 : vp_V ((List.range N).map (fun k => fv α (nw m (ci + 1) 0 N) ci k (mC m))) k = fv α m ci k (mC m) := by
      rw [nw_old hb]
      simp [vp_V, hk]
      rfl
    rw [e0]
    unfold fv
    rw [q1, q2, q3]
    have hkk := hf k hk
    generalize q_ty ci k = ty at hkk ⊢
    cases ty <;> first | rfl | (simp [fkd] at hkk)))
  rw [List.map_cons, show cv G α (.ref (mC m)) = .ref H.size by rw [← h0]; rfl] at hE
  exact hE
end Make
section Rets
variable {M : MI} {pc : Nat} {ls : List (Nat × Value)} {m : Mem}
theorem Qr.of {G : GG} {α : Nat → Nat} {v : Option Value} {m' : Mem} {s : State} {H : Heap} {locs : List Loc} (hM : MW G α m' H) (hS : va_S (Ad α) s.heap H locs) (a : Array Value) : ∀ t : State, t.heap = H → s.WarmedH t.vm → Qr G α v m' a s (.returned (v.map (cv G α))) t := fun t ht _ => ⟨rfl, by rw [ht]; exact hM, hS.F ht⟩
theorem r_iret {x : Int32} (hr : M.2.2.2.1 = some .int) (hd : decode M.2.1 pc = .ok (.ireturn, 1)) : Run M pc ls [.int x] m (some (.int x)) m := by
  refine ⟨Nat.le_refl _, Nat.le_refl _, fun G α p l e R s mid args below meth c H locs cells slots lsA kc ks B => ?_⟩
  obtain ⟨J, C, L, Y, S, e1, f1, r1, r2⟩ := B
  obtain rfl : cells = kc := by omega
  obtain rfl : slots = ks := by omega
  have hlk : meth.locks = false := C.2.2.2.2.1
  exact W.iret C.1 C.2.1 (C.2.2.2.1.trans hr) (Qr.of (v := some (.int x)) Y S args) (fun q hq => S.2.2 q hq) hd hlk
theorem r_zret {x : Int32} (hz : x = 0 ∨ x = 1) (hr : M.2.2.2.1 = some .boolean) (hd : decode M.2.1 pc = .ok (.ireturn, 1)) : Run M pc ls [.int x] m (some (.int x)) m := by
  refine ⟨Nat.le_refl _, Nat.le_refl _, fun G α p l e R s mid args below meth c H locs cells slots lsA kc ks B => ?_⟩
  obtain ⟨J, C, L, Y, S, e1, f1, r1, r2⟩ := B
  obtain rfl : cells = kc := by omega
  obtain rfl : slots = ks := by omega
  have hlk : meth.locks = false := C.2.2.2.2.1
  exact W.zret C.1 C.2.1 (C.2.2.2.1.trans hr) (by rcases hz with rfl | rfl <;> rfl) (Qr.of (v := some (.int x)) Y S args) (fun q hq => S.2.2 q hq) hd hlk
theorem r_lret {x : Int64} (hr : M.2.2.2.1 = some .long) (hd : decode M.2.1 pc = .ok (.lreturn, 1)) : Run M pc ls [.long x] m (some (.long x)) m := by
  refine ⟨Nat.le_refl _, Nat.le_refl _, fun G α p l e R s mid args below meth c H locs cells slots lsA kc ks B => ?_⟩
  obtain ⟨J, C, L, Y, S, e1, f1, r1, r2⟩ := B
  obtain rfl : cells = kc := by omega
  obtain rfl : slots = ks := by omega
  have hlk : meth.locks = false := C.2.2.2.2.1
  exact W.lret C.1 C.2.1 (C.2.2.2.1.trans hr) (Qr.of (v := some (.long x)) Y S args) (fun q hq => S.2.2 q hq) hd hlk
theorem r_vret (hr : M.2.2.2.1 = none) (hd : decode M.2.1 pc = .ok (.return_, 1)) : Run M pc ls [] m none m := by
  refine ⟨Nat.le_refl _, Nat.le_refl _, fun G α p l e R s mid args below meth c H locs cells slots lsA kc ks B => ?_⟩
  obtain ⟨J, C, L, Y, S, e1, f1, r1, r2⟩ := B
  obtain rfl : cells = kc := by omega
  obtain rfl : slots = ks := by omega
  have hlk : meth.locks = false := C.2.2.2.2.1
  exact W.vret C.1 C.2.1 (C.2.2.2.1.trans hr) (Qr.of (v := none) Y S args) (fun q hq => S.2.2 q hq) hd hlk
theorem r_aret {o : Option Nat} {rt : FieldType} (hr : M.2.2.2.1 = some rt) (hrt : (∃ n, rt = .object n) ∨ ∃ t, rt = .array t) (hd : decode M.2.1 pc = .ok (.areturn, 1)) : Run M pc ls [va_rf o] m (some (va_rf o)) m := by
  refine ⟨Nat.le_refl _, Nat.le_refl _, fun G α p l e R s mid args below meth c H locs cells slots lsA kc ks B => ?_⟩
  obtain ⟨J, C, L, Y, S, e1, f1, r1, r2⟩ := B
  obtain rfl : cells = kc := by omega
  obtain rfl : slots = ks := by omega
  have hlk : meth.locks = false := C.2.2.2.2.1
  exact W.aret C.1 C.2.1 (C.2.2.2.1.trans hr) hrt (by cases o with | none => exact Or.inl rfl | some a => exact Or.inr ⟨α a, rfl⟩) (Qr.of (v := some (va_rf o)) Y S args) (fun q hq => S.2.2 q hq) hd hlk
end Rets
section Calls9
variable {M K : MI} {pc : Nat} {ls : List (Nat × Value)} {st As : List Value} {m m1 m' : Mem} {v w : Option Value} {G : GG} {α : Nat → Nat} {idx b ci : Nat}
def wsM (M : MI) : List Cond := Cond.code M.1 M.2.1 M.2.2.1 M.2.2.2.1 :: g_tbl
def rmM (M : MI) (mc ms : Nat) : Room := { frames := M.2.2.2.2.1, cells := mc, slots := ms, locals := M.2.2.2.2.2 }
def Pcx (G : GG) (α : Nat → Nat) (m : Mem) (As : List Value) : Array Value → State → Prop := fun a U => a = (As.map (cv G α)).toArray ∧ MW G α m U.heap ∧ Kx G α U
theorem lv_args_map (G : GG) (α : Nat → Nat) : ∀ (As : List Value) (i : Nat), lv_args i (As.map (cv G α)) = lm G α (lv_args i As)
  | [], _ => rfl
  | x :: As, i => by
    show (i, cv G α x) :: lv_args (if (cv G α x).category = 2 then i + 2 else i + 1) (As.map (cv G α)) = (i, cv G α x) :: lm G α (lv_args (if x.category = 2 then i + 2 else i + 1) As)
    rw [cv_cat, lv_args_map]
theorem lg_sl_map (G : GG) (α : Nat → Nat) : ∀ (As : List Value), (lg_sl (As.map (cv G α))).length = (lg_sl As).length
  | [] => rfl
  | x :: As => by
    have ih := lg_sl_map G α As
    cases x <;> simp_all [lg_sl, cv, Value.category]
theorem Kx.same {s U : State} (hv : U.vm = s.vm) (hh : U.heap = s.heap) (h : Kx G α s) : Kx G α U := by
  have al : s.vm.Alike U.vm := by rw [hv]; exact Vm.Alike.refl _
  obtain ⟨k1, k2, ⟨k3, k4, k5⟩, k6, k7, k8, k9, k10⟩ := h
  refine ⟨va_K.moved al k1, fun q hq => va_Nw.same rfl hv.symm (k2 q hq), ⟨k3.moved al, k4.moved al, k5.moved al⟩, fun j q hq => vk_R.same hv (k6 j q hq), ?_⟩
  unfold Kz
  rw [hh]
  exact ⟨vk_S.moved al k7, k8, va_Z.moved al k9, va_Z.moved al k10⟩
theorem Kx.warm {s U : State} {H : Heap} {locs : List Loc} (hW : s.WarmedH U.vm) (hh : U.heap = H) (hS : va_S (Ad α) s.heap H locs) (h : Kx G α s) : Kx G α U := by
  obtain ⟨k1, k2, ⟨k3, k4, k5⟩, k6, k7, k8, k9, k10⟩ := h
  refine ⟨va_K.moved hW.alike k1, fun q hq => va_Nw.warmM hW (k2 q hq), ⟨k3.moved hW.alike, k4.moved hW.alike, k5.moved hW.alike⟩, fun j q hq => vk_R.warm hW (k6 j q hq), ?_⟩
  unfold Kz
  rw [hh]
  exact ⟨(vk_S.moved hW.alike k7).kept (fun a h1 h2 => hS.2.1 a h1 h2), k8, (va_Z.moved hW.alike k9).kept (fun a h1 h2 => hS.2.1 a h1 h2), (va_Z.moved hW.alike k10).kept (fun a h1 h2 => hS.2.1 a h1 h2)⟩
theorem Run.met (l : Launch) (J : ∀ i j, α i = α j → i = j) (hy : plainName M.1.cls = true) (hs : (lg_sl As).length ≤ M.2.2.1) (h : Run M 0 (lv_args 0 As) [] m v m') :
    Met l M.1 (wsM M) (rmM M (mC m' - mC m) (mS m' - mS m)) (Pcx G α m As) (Qr G α v m') (mC m' - mC m) (mS m' - mS m) (Ad α) := by
  refine Met.ofW (cc := M.2.1) (maxL := M.2.2.1) (ret := M.2.2.2.1) hy rfl ?_
  intro p e s mid args below meth c s₁ B hml hP
  obtain ⟨rfl, hW, hK⟩ := hP
  have hts : ∀ w ∈ wsM M, w.before ((As.map (cv G α)).toArray) s = true := atoms_spec (ws := wsM M) B.pre
  have hl := lv_entry (As.map (cv G α)) (n := M.2.2.1) (by rw [lg_sl_map]; exact hs)
  rw [lv_args_map] at hl
  rw [lg_entry_eq]
  have h1 := h.1
  have h2 := h.2.1
  exact h.2.2 G α p l e _ s mid _ below meth c s.heap [] 0 0 _ _ _ ⟨J, ⟨B.exec, B.bytes, hml, B.returns, B.notSynchronized, (name_of_methodNamed B.named B.method).1, findClass_of_methodNamed B.named, fun w hw => hts w (List.mem_cons_of_mem _ hw), hK, Nat.le_refl _, Nat.le_refl _⟩, hl, hW, va_S.rf, by omega, by omega, Nat.le_refl _, Nat.le_refl _⟩
theorem Pcx.blind : FrameBlind (Pcx G α m As) := fun a U g mk h => ⟨h.1, h.2.1, Kx.same (s := U) rfl rfl h.2.2⟩
/-- behind a call: what came back, and the rest of the walk -/
theorem call_on {p : Program} {l : Launch} {e : Env} {R : Room} {s : State} {mid : MethodId} {args : Array Value} {below : List Frame} {meth : Method} {c : Code} {H : Heap} {locs : List Loc} {cells slots kc ks : Nat} {lsA : Array Slot} {A : Array Value} {st0 : List Value}
    (hr : va_Run p l e R s mid args below meth c H locs cells slots (mC m1 - mC m) (mS m1 - mS m) (F0 mid pc lsA st0) (st.map (cv G α)) (Qr G α w m1 A) (Ad α)) (g1 : mC m ≤ mC m1) (g2 : mS m ≤ mS m1)
    (B : Bx G α M ls m m' p R s mid args meth c H locs cells slots lsA kc ks) (h : Run M (pc + 3) ls (w.toList ++ st) m1 v m') : W p l e R s mid args below meth c H locs cells slots (MQ below (Qr G α v m') args s kc ks (Ad α)) (F0 mid pc lsA st0) := by
  intro T hT X
  obtain ⟨v', st₀, t, T', L, h0, X', hL, e1, e2, hq, go⟩ := hr T hT X
  obtain ⟨q1, q2, q3, q4⟩ := hq
  cases q1
  obtain ⟨J, C, Lo, Y, S, c1, c2, r1, r2⟩ := B
  have hS : va_S (Ad α) s.heap T'.heap (locs ++ L) := by
    rw [h0] at q3 q4
    refine ⟨Nat.le_trans S.1 (by rw [e1]; exact q3), fun q z1 z2 => ?_, fun q hq => ?_⟩
    · rw [e1, q4 q (Nat.lt_of_lt_of_le z1 S.1) z2]; exact S.2.1 q z1 z2
    · rcases List.mem_append.mp hq with z | z
      · exact S.2.2 q z
      · exact hL q z
  have k := h.2.2 G α p l e R s mid args below meth c T'.heap (locs ++ L) (cells + (mC m1 - mC m)) (slots + (mS m1 - mS m)) lsA kc ks ⟨J, C, Lo, by rw [e1]; exact q2, hS, by omega, by omega, r1, r2⟩ T' rfl X'
  obtain ⟨t2, a1, b1⟩ := k
  refine ⟨t2, go t2 ?_, b1⟩
  have es : (w.toList ++ st).map (cv G α) = (w.map (cv G α)).toList ++ st.map (cv G α) := by cases w <;> simp
  rw [es] at a1
  exact a1
theorem cat_map : ((st.map (cv G α)).map fun v => v.category).sum = (st.map fun v => v.category).sum := by
  simp [List.map_map, Function.comp_def, cv_cat]
/-- what a callee K must be -/
def mOk (K : MI) (n : Nat) : Prop := Cond.code K.1 K.2.1 K.2.2.1 K.2.2.2.1 ∈ g_tbl ∧ Cond.initialized K.1.cls ∈ g_tbl ∧ plainName K.1.cls = true ∧ (K.1.cls ≠ "java/lang/invoke/MethodHandle" ∧ K.1.cls ≠ "java/lang/invoke/VarHandle" ∧ (parseMethodDescriptor K.1.desc).map (fun d => d.parameters.length) = some n)
def rOk (M K : MI) : Prop := K.2.2.2.2.1 + 1 ≤ M.2.2.2.2.1 ∧ 8 + (K.2.2.1 + 11) + K.2.2.2.2.2 ≤ M.2.2.2.2.2
theorem wsM_good (hK : Cond.code K.1 K.2.1 K.2.2.1 K.2.2.2.1 ∈ g_tbl) : GoodIn g_tbl (wsM K) := fun w hw => by
  rcases List.mem_cons.mp hw with rfl | h
  · exact g_good _ hK
  · exact g_good _ h
def lkV (own : String) (idx : Nat) (K : MI) (ci : Nat) : Prop := ci < 31 ∧ (∃ T N, q_cl[ci]? = some (K.1.cls, T, N)) ∧ Cond.methodLink own idx K.1 ∈ g_tbl ∧ Cond.instanceMethod K.1 ∈ g_tbl ∧ Cond.selects K.1.cls K.1 K.1 ∈ g_tbl
theorem rcv_of {H : Heap} (Y : MW G α m H) {s : State} (hK : Kx G α s) {C0 : String} {T : u_T} {N : Nat} (hci : ci < 31) (hc : q_cl[ci]? = some (C0, T, N)) (ht : mT m b = ci + 1) : ∃ cellB : Cell, H[α b]? = some cellB ∧ cellB.vm.isStatics = false ∧ s.vm.findClass C0 = some cellB.cls := by
  have hP := Y.one (Y.lt (a := b) (by omega))
  rw [ent_obj ht hci] at hP
  exact va_recv hK.1 hP (ci := ci) (q0 := 0) hc rfl
theorem r_callV (hd : decode M.2.1 pc = .ok (.invokevirtual idx, 3)) (hl : lkV M.1.cls idx K ci) (hm : mOk K As.length) (hR : rOk M K) (hs : (lg_sl (.ref b :: As)).length ≤ K.2.2.1) (hst : (st.map fun v => v.category).sum ≤ 8) (ht : mT m b = ci + 1)
    (h1 : Run K 0 (lv_args 0 (.ref b :: As)) [] m w m1) (h2 : Run M (pc + 3) ls (w.toList ++ st) m1 v m') : Run M pc ls (As.reverse ++ .ref b :: st) m v m' := by
  refine ⟨Nat.le_trans h1.1 h2.1, Nat.le_trans h1.2.1 h2.2.1, fun G α p l e R s mid args below meth c H locs cells slots lsA kc ks B => ?_⟩
  obtain ⟨hci, ⟨T, N, hc⟩, w1, w2, w3⟩ := hl
  obtain ⟨k1, k2, k3, k4, k5, k6⟩ := hm
  have C := B.2.1
  have g1 := h1.1; have g2 := h1.2.1; have g3 := h2.1; have g4 := h2.2.1
  have S := B.2.2.2.2.1
  have hM := h1.met (G := G) (α := α) l B.1 k3 hs
  refine call_on (va_runV (As := As.map (cv G α)) (rest := st.map (cv G α)) (b := α b) (C := K.1.cls) (Ts := g_tbl) (own := M.1.cls) (nL := M.2.2.1) ⟨C.1, C.2.1, C.2.2.1, C.2.2.2.2.2.2.1, C.2.2.2.2.2.2.2.1⟩ hM (n := As.length)
    (cwV As.length C.2.2.2.2.2.2.2.1 ?_ rfl rfl rfl ⟨rfl, k4, k5, k6⟩ ⟨Nat.le_trans hR.1 C.2.2.2.2.2.2.2.2.2.1, Nat.le_trans hR.2 C.2.2.2.2.2.2.2.2.2.2⟩)
    ⟨Pcx.blind, rcv_of B.2.2.2.1 C.2.2.2.2.2.2.2.2.1 hci hc ht, fun U hU hW => ⟨rfl, by rw [hU]; exact B.2.2.2.1, Kx.warm hW hU S C.2.2.2.2.2.2.2.2.1⟩⟩ rfl (by simp) B.2.2.1.1 (by simp [cv]) (lv_room (by rw [cat_map]; exact hst)) hd ?_) g1 g2 B h2
  · intro w hw
    unfold wsV at hw
    rcases List.mem_append.mp hw with hw | hw
    · simp only [List.mem_cons, List.not_mem_nil, or_false] at hw
      rcases hw with rfl | rfl | rfl | rfl
      · exact g_good _ w1
      · exact g_good _ w2
      · exact g_good _ w3
      · exact g_good _ k2
    · exact wsM_good k1 w hw
  · obtain ⟨-, -, -, -, -, c1, c2, r1, r2⟩ := B
    exact ⟨by omega, by omega⟩
def lkS (own : String) (idx : Nat) (K : MI) : Prop := Cond.methodLink own idx K.1 ∈ g_tbl ∧ Cond.static K.1 ∈ g_tbl
theorem r_callS (hd : decode M.2.1 pc = .ok (.invokestatic idx, 3)) (hl : lkS M.1.cls idx K) (hm : mOk K As.length) (hR : rOk M K) (hs : (lg_sl As).length ≤ K.2.2.1) (hst : (st.map fun v => v.category).sum ≤ 8)
    (h1 : Run K 0 (lv_args 0 As) [] m w m1) (h2 : Run M (pc + 3) ls (w.toList ++ st) m1 v m') : Run M pc ls (As.reverse ++ st) m v m' := by
  refine ⟨Nat.le_trans h1.1 h2.1, Nat.le_trans h1.2.1 h2.2.1, fun G α p l e R s mid args below meth c H locs cells slots lsA kc ks B => ?_⟩
  obtain ⟨w1, w2⟩ := hl
  obtain ⟨k1, k2, k3, k4, k5, k6⟩ := hm
  have C := B.2.1
  have g1 := h1.1; have g2 := h1.2.1; have g3 := h2.1; have g4 := h2.2.1
  have S := B.2.2.2.2.1
  have hM := h1.met (G := G) (α := α) l B.1 k3 hs
  have hts := C.2.2.2.2.2.2.2.1
  refine call_on (va_runS (As := As.map (cv G α)) (rest := st.map (cv G α)) (Ts := g_tbl) (own := M.1.cls) (nL := M.2.2.1) ⟨C.1, C.2.1, C.2.2.1, C.2.2.2.2.2.2.1, hts⟩ hM (n := As.length)
    ⟨callB_of As.length hts (wsM_good k1) rfl rfl rfl (hts _ k2) (hts _ w1) ⟨k4, k5, k6⟩ ⟨Nat.le_trans hR.1 C.2.2.2.2.2.2.2.2.2.1, Nat.le_trans hR.2 C.2.2.2.2.2.2.2.2.2.2⟩, hts _ w2⟩
    ⟨Pcx.blind, fun U hU hW => ⟨rfl, by rw [hU]; exact B.2.2.2.1, Kx.warm hW hU S C.2.2.2.2.2.2.2.2.1⟩⟩ rfl (by simp) B.2.2.1.1 (by simp) (lv_room (by rw [cat_map]; exact hst)) hd ?_) g1 g2 B h2
  obtain ⟨-, -, -, -, -, c1, c2, r1, r2⟩ := B
  exact ⟨by omega, by omega⟩
theorem r_callSN {host : String} (hd : decode M.2.1 pc = .ok (.invokestatic idx, 3)) (hl : (M.1.cls, idx, K.1, host) ∈ n_tbl ∧ Cond.static K.1 ∈ g_tbl) (hm : mOk K As.length) (hR : rOk M K) (hs : (lg_sl As).length ≤ K.2.2.1) (hst : (st.map fun v => v.category).sum ≤ 8)
    (h1 : Run K 0 (lv_args 0 As) [] m w m1) (h2 : Run M (pc + 3) ls (w.toList ++ st) m1 v m') : Run M pc ls (As.reverse ++ st) m v m' := by
  refine ⟨Nat.le_trans h1.1 h2.1, Nat.le_trans h1.2.1 h2.2.1, fun G α p l e R s mid args below meth c H locs cells slots lsA kc ks B => ?_⟩
  obtain ⟨w1, w2⟩ := hl
  obtain ⟨k1, k2, k3, k4, k5, k6⟩ := hm
  have C := B.2.1
  have g1 := h1.1; have g2 := h1.2.1; have g3 := h2.1; have g4 := h2.2.1
  have S := B.2.2.2.2.1
  have hM := h1.met (G := G) (α := α) l B.1 k3 hs
  have hts := C.2.2.2.2.2.2.2.1
  have hnw := C.2.2.2.2.2.2.2.2.1.2.1 _ w1
  refine call_on (va_runSN (As := As.map (cv G α)) (rest := st.map (cv G α)) (Ts := g_tbl) (own := M.1.cls) (host := host) (nL := M.2.2.1) ⟨C.1, C.2.1, C.2.2.1, C.2.2.2.2.2.2.1, hts⟩ hM (n := As.length)
    ⟨va_cnB As.length hts (wsM_good k1) rfl rfl rfl hnw (hts _ k2) ⟨k4, k5, k6⟩ ⟨Nat.le_trans hR.1 C.2.2.2.2.2.2.2.2.2.1, Nat.le_trans hR.2 C.2.2.2.2.2.2.2.2.2.2⟩, hts _ w2, trivial⟩
    ⟨Pcx.blind, fun U hU hW => ⟨rfl, by rw [hU]; exact B.2.2.2.1, Kx.warm hW hU S C.2.2.2.2.2.2.2.2.1⟩⟩ rfl (by simp) B.2.2.1.1 (by simp) (lv_room (by rw [cat_map]; exact hst)) hd ?_) g1 g2 B h2
  obtain ⟨-, -, -, -, -, c1, c2, r1, r2⟩ := B
  exact ⟨by omega, by omega⟩
def lkI (own : String) (idx : Nat) (K : MI) : Prop := K.2.2.2.1 = none ∧ K.1.name = "<init>" ∧ Cond.methodLink own idx K.1 ∈ g_tbl ∧ Cond.instanceMethod K.1 ∈ g_tbl
theorem r_callI (hd : decode M.2.1 pc = .ok (.invokespecial idx, 3)) (hl : lkI M.1.cls idx K) (hm : mOk K As.length) (hR : rOk M K) (hs : (lg_sl (.ref b :: As)).length ≤ K.2.2.1) (hst : (st.map fun v => v.category).sum ≤ 8)
    (h1 : Run K 0 (lv_args 0 (.ref b :: As)) [] m w m1) (h2 : Run M (pc + 3) ls (w.toList ++ st) m1 v m') : Run M pc ls (As.reverse ++ .ref b :: st) m v m' := by
  refine ⟨Nat.le_trans h1.1 h2.1, Nat.le_trans h1.2.1 h2.2.1, fun G α p l e R s mid args below meth c H locs cells slots lsA kc ks B => ?_⟩
  obtain ⟨w0, w1, w2, w3⟩ := hl
  obtain ⟨k1, k2, k3, k4, k5, k6⟩ := hm
  have C := B.2.1
  have g1 := h1.1; have g2 := h1.2.1; have g3 := h2.1; have g4 := h2.2.1
  have S := B.2.2.2.2.1
  have hM := h1.met (G := G) (α := α) l B.1 k3 hs
  have hts := C.2.2.2.2.2.2.2.1
  have hw : wsM K = Cond.code K.1 K.2.1 K.2.2.1 none :: g_tbl := by unfold wsM; rw [w0]
  refine call_on (va_runI (As := As.map (cv G α)) (rest := st.map (cv G α)) (b := α b) (Ts := g_tbl) (own := M.1.cls) (nL := M.2.2.1) ⟨C.1, C.2.1, C.2.2.1, C.2.2.2.2.2.2.1, hts⟩ hM (n := As.length)
    ⟨callB_of As.length hts (wsM_good k1) hw rfl rfl (hts _ k2) (hts _ w2) ⟨k4, k5, k6⟩ ⟨Nat.le_trans hR.1 C.2.2.2.2.2.2.2.2.2.1, Nat.le_trans hR.2 C.2.2.2.2.2.2.2.2.2.2⟩, w1, hts _ w3⟩
    ⟨Pcx.blind, fun U hU hW => ⟨rfl, by rw [hU]; exact B.2.2.2.1, Kx.warm hW hU S C.2.2.2.2.2.2.2.2.1⟩⟩ rfl (by simp) B.2.2.1.1 (by simp [cv]) (lv_room (by rw [cat_map]; exact hst)) hd ?_) g1 g2 B h2
  obtain ⟨-, -, -, -, -, c1, c2, r1, r2⟩ := B
  exact ⟨by omega, by omega⟩
theorem r_callIN {host : String} (hd : decode M.2.1 pc = .ok (.invokespecial idx, 3)) (hl : K.2.2.2.1 = none ∧ K.1.name = "<init>" ∧ (M.1.cls, idx, K.1, host) ∈ n_tbl ∧ Cond.instanceMethod K.1 ∈ g_tbl) (hm : mOk K As.length) (hR : rOk M K) (hs : (lg_sl (.ref b :: As)).length ≤ K.2.2.1) (hst : (st.map fun v => v.category).sum ≤ 8)
    (h1 : Run K 0 (lv_args 0 (.ref b :: As)) [] m w m1) (h2 : Run M (pc + 3) ls (w.toList ++ st) m1 v m') : Run M pc ls (As.reverse ++ .ref b :: st) m v m' := by
  refine ⟨Nat.le_trans h1.1 h2.1, Nat.le_trans h1.2.1 h2.2.1, fun G α p l e R s mid args below meth c H locs cells slots lsA kc ks B => ?_⟩
  obtain ⟨w0, w1, w2, w3⟩ := hl
  obtain ⟨k1, k2, k3, k4, k5, k6⟩ := hm
  have C := B.2.1
  have g1 := h1.1; have g2 := h1.2.1; have g3 := h2.1; have g4 := h2.2.1
  have S := B.2.2.2.2.1
  have hM := h1.met (G := G) (α := α) l B.1 k3 hs
  have hts := C.2.2.2.2.2.2.2.1
  have hw : wsM K = Cond.code K.1 K.2.1 K.2.2.1 none :: g_tbl := by unfold wsM; rw [w0]
  have hnw := C.2.2.2.2.2.2.2.2.1.2.1 _ w2
  refine call_on (va_runIN (As := As.map (cv G α)) (rest := st.map (cv G α)) (b := α b) (Ts := g_tbl) (own := M.1.cls) (host := host) (nL := M.2.2.1) ⟨C.1, C.2.1, C.2.2.1, C.2.2.2.2.2.2.1, hts⟩ hM (n := As.length)
    ⟨va_cnB As.length hts (wsM_good k1) hw rfl rfl hnw (hts _ k2) ⟨k4, k5, k6⟩ ⟨Nat.le_trans hR.1 C.2.2.2.2.2.2.2.2.2.1, Nat.le_trans hR.2 C.2.2.2.2.2.2.2.2.2.2⟩, w1, hts _ w3⟩
    ⟨Pcx.blind, fun U hU hW => ⟨rfl, by rw [hU]; exact B.2.2.2.1, Kx.warm hW hU S C.2.2.2.2.2.2.2.2.1⟩⟩ rfl (by simp) B.2.2.1.1 (by simp [cv]) (lv_room (by rw [cat_map]; exact hst)) hd ?_) g1 g2 B h2
  obtain ⟨-, -, -, -, -, c1, c2, r1, r2⟩ := B
  exact ⟨by omega, by omega⟩
/-- Object's own constructor -/
theorem r_objI (hd : decode M.2.1 pc = .ok (.invokespecial idx, 3)) (w1 : Cond.methodLink M.1.cls idx Lib.objectInit ∈ g_tbl) (w2 : Cond.instanceMethod Lib.objectInit ∈ g_tbl) (w3 : Cond.code Lib.objectInit ⟨#[0xb1]⟩ 1 none ∈ g_tbl) (hst : (st.map fun v => v.category).sum ≤ 8) (hR : 1 ≤ M.2.2.2.2.1 ∧ 20 ≤ M.2.2.2.2.2) (h : Run M (pc + 3) ls st m v m') : Run M pc ls (.ref b :: st) m v m' :=
  h.up fun G α p l e R s mid args below meth c H locs cells slots lsA Q J C L Y q => by
    have hts := C.2.2.2.2.2.2.2.1
    refine W.objInit C.1 C.2.1 C.2.2.2.2.2.2.1 (hts _ w1) (hts _ w2) (hts _ w3) rfl (L.1.trans C.2.2.1.symm) rfl hd (Nat.le_trans hR.1 C.2.2.2.2.2.2.2.2.2.1) ?_ q
    have z := lv_room (m := mid) (pc := pc) (ls := lsA) (rest := []) (st := st.map (cv G α)) (by rw [cat_map]; exact hst)
    have z2 := C.2.2.2.2.2.2.2.2.2.2
    have z3 : 2 * (F0 mid pc lsA ((.ref (α b)) :: st.map (cv G α))).monitorRoom = 2 * (F0 mid pc lsA []).monitorRoom := rfl
    have z4 := hR.2
    show 2 * (F0 mid pc lsA ((.ref (α b)) :: st.map (cv G α))).monitorRoom + _ + 12 ≤ _
    omega
end Calls9
