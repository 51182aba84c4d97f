/-! rows of arrays, of making, of returns -/
theorem inb_vp {i : Int32} {n : Nat} (h : inb i n = true) : vp_in i n := of_decide_eq_true (p := ¬ (i < 0 ∨ n ≤ i.toNatClampNeg)) h
section Arr
variable {M : MI} {pc : Nat} {ls : List (Nat × Value)} {st : List Value} {m m' : Mem} {v : Option Value} {a : Nat} {i : Int32}
theorem Bx.put {G : GG} {α : Nat → Nat} {p : Program} {R : Room} {s : State} {mid : MethodId} {args : Array Value} {meth : Method} {c : Code} {H H1 : Heap} {locs : List Loc} {cells slots : Nat} {lsA : Array Slot} {kc ks : Nat} (B : Bx G α M ls m m' p R s mid args meth c H locs cells slots lsA kc ks) {m1 : Mem}
    (e2 : H1.size = H.size) (e3 : ∀ q : Nat, q ≠ α a → H1[q]? = H[q]?) (he : va_at G.1 q_cl (α a, enM G α m1 a) H1) (hC : mC m1 = mC m) (hS : mS m1 = mS m) (ho : ∀ b, b ≠ a → enM G α m1 b = enM G α m b) (hb : ∀ b, mC m ≤ b → Blk m b → Blk m1 b) (j : Nat) :
    Bx G α M ls m1 m' p R s mid args meth c H1 (locs ++ [⟨α a, j⟩]) cells slots lsA kc ks := by
  obtain ⟨J, C, L, Y, S, e1, f1, r1, r2⟩ := B
  exact ⟨J, C, L, Y.put J e2 e3 he hC ho hb, S.put e2 e3 ⟨a, rfl⟩, by rw [hC]; exact e1, by rw [hS]; exact f1, r1, r2⟩
theorem Blk.wI {j b : Nat} {x : Int32} (hb : Blk m b) (h : b ≠ a) : Blk (wI m a j x) b := ⟨hb.1, hb.2.1, fun g => ⟨by show up2 (aI m) a j x b g = 0; rw [up2_ne (fun q => h q.1)]; exact (hb.2.2 g).1, (hb.2.2 g).2.1, (hb.2.2 g).2.2⟩⟩
theorem Blk.wL {j b : Nat} {x : Int64} (hb : Blk m b) (h : b ≠ a) : Blk (wL m a j x) b := ⟨hb.1, hb.2.1, fun g => ⟨(hb.2.2 g).1, by show up2 (aL m) a j x b g = 0; rw [up2_ne (fun q => h q.1)]; exact (hb.2.2 g).2.1, (hb.2.2 g).2.2⟩⟩
theorem Blk.wR {j b : Nat} {x : Option Nat} (hb : Blk m b) (h : b ≠ a) : Blk (wR m a j x) b := ⟨hb.1, hb.2.1, fun g => ⟨(hb.2.2 g).1, (hb.2.2 g).2.1, by show up2 (aR m) a j x b g = none; rw [up2_ne (fun q => h q.1)]; exact (hb.2.2 g).2.2⟩⟩
theorem aI_wI {j : Nat} {x : Int32} : aI (wI m a j x) a = upd (aI m a) j x := by
  funext q
  show up2 (aI m) a j x a q = _
  unfold up2 upd
  simp
theorem aL_wL {j : Nat} {x : Int64} : aL (wL m a j x) a = vp_updL (aL m a) j x := by
  funext q
  show up2 (aL m) a j x a q = _
  unfold up2 vp_updL
  simp
theorem aR_wR {j : Nat} {x : Option Nat} : aR (wR m a j x) a = va_up (aR m a) j x := by
  funext q
  show up2 (aR m) a j x a q = _
  unfold up2 va_up
  simp
theorem ent_wI {G : GG} {α : Nat → Nat} {j b : Nat} {x : Int32} (h : b ≠ a) : enM G α (wI m a j x) b = enM G α m b := ent_congr rfl rfl (fun _ => rfl) (fun _ => rfl) (fun _ => rfl) (funext fun q => up2_ne (fun z => h z.1)) rfl rfl
theorem ent_wL {G : GG} {α : Nat → Nat} {j b : Nat} {x : Int64} (h : b ≠ a) : enM G α (wL m a j x) b = enM G α m b := ent_congr rfl rfl (fun _ => rfl) (fun _ => rfl) (fun _ => rfl) rfl (funext fun q => up2_ne (fun z => h z.1)) rfl
theorem ent_wR {G : GG} {α : Nat → Nat} {j b : Nat} {x : Option Nat} (h : b ≠ a) : enM G α (wR m a j x) b = enM G α m b := ent_congr rfl rfl (fun _ => rfl) (fun _ => rfl) (fun _ => rfl) rfl rfl (funext fun q => up2_ne (fun z => h z.1))
theorem r_iald (hd : decode M.2.1 pc = .ok (.iaload, 1)) (ht : mT m a = 32) (hi : inb i (mN m a) = true) (h : Run M (pc + 1) ls (.int (aI m a (ix i)) :: st) m v m') : Run M pc ls (.int i :: .ref a :: st) m v m' :=
  h.up fun G α p l e R s mid args below meth c H locs cells slots lsA Q J C L Y q => by
    have hP := Y.one (Y.lt (a := a) (by omega))
    rw [ent_int ht] at hP
    exact va_iald C.1 C.2.1 C.2.2.2.2.2.2.2.2.1.1 hP 0 0 rfl rfl (inb_vp hi) hd q
theorem r_bald (hd : decode M.2.1 pc = .ok (.baload, 1)) (ht : mT m a = 33) (hi : inb i (mN m a) = true) (h : Run M (pc + 1) ls (.int (aI m a (ix i)) :: st) m v m') : Run M pc ls (.int i :: .ref a :: st) m v m' :=
  h.up fun G α p l e R s mid args below meth c H locs cells slots lsA Q J C L Y q => by
    have hP := Y.one (Y.lt (a := a) (by omega))
    rw [ent_byte ht] at hP
    exact va_bald C.1 C.2.1 C.2.2.2.2.2.2.2.2.1.1 hP 0 1 rfl rfl (inb_vp hi) hd q
theorem r_zald (hd : decode M.2.1 pc = .ok (.baload, 1)) (ht : mT m a = 34) (hi : inb i (mN m a) = true) (h : Run M (pc + 1) ls (.int (aI m a (ix i)) :: st) m v m') : Run M pc ls (.int i :: .ref a :: st) m v m' :=
  h.up fun G α p l e R s mid args below meth c H locs cells slots lsA Q J C L Y q => by
    have hP := Y.one (Y.lt (a := a) (by omega))
    rw [ent_bool ht] at hP
    exact va_zald C.1 C.2.1 C.2.2.2.2.2.2.2.2.1.1 hP 0 2 rfl rfl (inb_vp hi) hd q
theorem r_lald (hd : decode M.2.1 pc = .ok (.laload, 1)) (ht : mT m a = 35) (hi : inb i (mN m a) = true) (h : Run M (pc + 1) ls (.long (aL m a (ix i)) :: st) m v m') : Run M pc ls (.int i :: .ref a :: st) m v m' :=
  h.up fun G α p l e R s mid args below meth c H locs cells slots lsA Q J C L Y q => by
    have hP := Y.one (Y.lt (a := a) (by omega))
    rw [ent_long ht] at hP
    exact va_lald C.1 C.2.1 C.2.2.2.2.2.2.2.2.1.1 hP 0 3 rfl rfl (inb_vp hi) hd q
theorem r_aald {j : Nat} (hj : j < 3) (hd : decode M.2.1 pc = .ok (.aaload, 1)) (ht : mT m a = 36 + j) (hi : inb i (mN m a) = true) (h : Run M (pc + 1) ls (va_rf (aR m a (ix i)) :: st) m v m') : Run M pc ls (.int i :: .ref a :: st) m v m' :=
  h.up fun G α p l e R s mid args below meth c H locs cells slots lsA Q J C L Y q => by
    have hP := Y.one (Y.lt (a := a) (by omega))
    rw [ent_refs ht] at hP
    simp only [List.map_cons, cv_rf] at q
    match j, hj with
    | 0, _ => exact va_aldq C.1 C.2.1 C.2.2.2.2.2.2.2.2.1.1 hP 0 4 rfl rfl (inb_vp hi) hd q
    | 1, _ => exact va_aldq C.1 C.2.1 C.2.2.2.2.2.2.2.2.1.1 hP 0 5 rfl rfl (inb_vp hi) hd q
    | 2, _ => exact va_aldq C.1 C.2.1 C.2.2.2.2.2.2.2.2.1.1 hP 0 6 rfl rfl (inb_vp hi) hd q
theorem r_alen (hd : decode M.2.1 pc = .ok (.arraylength, 1)) (ht : 32 ≤ mT m a ∧ mT m a < 39) (h : Run M (pc + 1) ls (.int (Int32.ofNat (mN m a)) :: st) m v m') : Run M pc ls (.ref a :: st) m v m' :=
  h.up fun G α p l e R s mid args below meth c H locs cells slots lsA Q J C L Y q => by
    have hP := Y.one (Y.lt (a := a) (by omega))
    rcases (show mT m a = 32 ∨ mT m a = 33 ∨ mT m a = 34 ∨ mT m a = 35 ∨ mT m a = 36 + 0 ∨ mT m a = 36 + 1 ∨ mT m a = 36 + 2 by omega) with z | z | z | z | z | z | z
    · rw [ent_int z] at hP; exact va_alen C.1 C.2.1 C.2.2.2.2.2.2.2.2.1.1 hP 0 0 rfl rfl rfl hd q
    · rw [ent_byte z] at hP; exact va_alen C.1 C.2.1 C.2.2.2.2.2.2.2.2.1.1 hP 0 1 rfl rfl rfl hd q
    · rw [ent_bool z] at hP; exact va_alen C.1 C.2.1 C.2.2.2.2.2.2.2.2.1.1 hP 0 2 rfl rfl rfl hd q
    · rw [ent_long z] at hP; exact va_alen C.1 C.2.1 C.2.2.2.2.2.2.2.2.1.1 hP 0 3 rfl rfl rfl hd q
    · rw [ent_refs z] at hP; exact va_alen C.1 C.2.1 C.2.2.2.2.2.2.2.2.1.1 hP 0 4 rfl rfl rfl hd q
    · rw [ent_refs z] at hP; exact va_alen C.1 C.2.1 C.2.2.2.2.2.2.2.2.1.1 hP 0 5 rfl rfl rfl hd q
    · rw [ent_refs z] at hP; exact va_alen C.1 C.2.1 C.2.2.2.2.2.2.2.2.1.1 hP 0 6 rfl rfl rfl hd q
theorem r_iast {x : Int32} (hd : decode M.2.1 pc = .ok (.iastore, 1)) (ht : mT m a = 32) (hi : inb i (mN m a) = true) (h : Run M (pc + 1) ls st (wI m a (ix i) x) v m') : Run M pc ls (.int x :: .int i :: .ref a :: st) m v m' := by
  refine ⟨h.1, h.2.1, fun G α p l e R s mid args below meth c H locs cells slots lsA kc ks B => ?_⟩
  have Y := B.2.2.2.1
  have C := B.2.1
  have ha : a < mC m := Y.lt (by omega)
  have hP := Y.one ha
  rw [ent_int ht] at hP
  refine W.iast C.1 C.2.1 (hP 0 _ rfl) ((C.2.2.2.2.2.2.2.2.1.1.2 0 _ rfl).1 (mN m a) (fun j => .int (aI m a j))) (fun q => by cases q) (by show ¬ (i < 0 ∨ (arrV _ _ _).slots.size ≤ _); rw [arrV_size]; exact inb_vp hi) rfl rfl hd fun H1 e1 z oq => ?_
  refine h.2.2 G α p l e R s mid args below meth c H1 _ cells slots lsA kc ks (B.put (m1 := wI m a (ix i) x) (a := a) z oq ?_ rfl rfl (fun b hb => ent_wI hb) (fun b h1 hb => hb.wI (by omega)) _)
  rw [ent_int (show mT (wI m a (ix i) x) a = 32 from ht), aI_wI]
  show H1[α a]? = some (vp_cell _ _)
  rw [e1, vp_cell_i, vp_cell_i, arrV_store]
  congr 2
  funext q
  by_cases hq : q = i.toNatClampNeg
  · subst hq; simp [updV, upd, ix]
  · simp [updV, upd, hq, ix]
theorem r_bast {x : Int32} (hd : decode M.2.1 pc = .ok (.bastore, 1)) (ht : mT m a = 33) (hi : inb i (mN m a) = true) (h : Run M (pc + 1) ls st (wI m a (ix i) x.toInt8.toInt32) v m') : Run M pc ls (.int x :: .int i :: .ref a :: st) m v m' := by
  refine ⟨h.1, h.2.1, fun G α p l e R s mid args below meth c H locs cells slots lsA kc ks B => ?_⟩
  have Y := B.2.2.2.1
  have C := B.2.1
  have ha : a < mC m := Y.lt (by omega)
  have hP := Y.one ha
  rw [ent_byte ht] at hP
  refine W.bast C.1 C.2.1 (hP 0 _ rfl) ((C.2.2.2.2.2.2.2.2.1.1.2 1 _ rfl).1 (mN m a) (fun j => .int (aI m a j))) (fun q => by cases q) (by show ¬ (i < 0 ∨ (arrV _ _ _).slots.size ≤ _); rw [arrV_size]; exact inb_vp hi) rfl rfl hd fun H1 e1 z oq => ?_
  refine h.2.2 G α p l e R s mid args below meth c H1 _ cells slots lsA kc ks (B.put (m1 := wI m a (ix i) x.toInt8.toInt32) (a := a) z oq ?_ rfl rfl (fun b hb => ent_wI hb) (fun b h1 hb => hb.wI (by omega)) _)
  rw [ent_byte (show mT (wI m a (ix i) _) a = 33 from ht), aI_wI]
  show H1[α a]? = some (vp_cell _ _)
  rw [e1, vp_cell_i, vp_cell_i, arrV_store]
  congr 2
  funext q
  by_cases hq : q = i.toNatClampNeg
  · subst hq; simp [updV, upd, ix, narrow]
  · simp [updV, upd, hq, ix]
theorem r_zast {x : Int32} (hz : x = 0 ∨ x = 1) (hd : decode M.2.1 pc = .ok (.bastore, 1)) (ht : mT m a = 34) (hi : inb i (mN m a) = true) (h : Run M (pc + 1) ls st (wI m a (ix i) x) v m') : Run M pc ls (.int x :: .int i :: .ref a :: st) m v m' := by
  refine ⟨h.1, h.2.1, fun G α p l e R s mid args below meth c H locs cells slots lsA kc ks B => ?_⟩
  have Y := B.2.2.2.1
  have C := B.2.1
  have ha : a < mC m := Y.lt (by omega)
  have hP := Y.one ha
  rw [ent_bool ht] at hP
  refine W.zast C.1 C.2.1 (hP 0 _ rfl) ((C.2.2.2.2.2.2.2.2.1.1.2 2 _ rfl).1 (mN m a) (fun j => .int (aI m a j))) (fun q => by cases q) (by show ¬ (i < 0 ∨ (arrV _ _ _).slots.size ≤ _); rw [arrV_size]; exact inb_vp hi) rfl rfl hd fun H1 e1 z oq => ?_
  refine h.2.2 G α p l e R s mid args below meth c H1 _ cells slots lsA kc ks (B.put (m1 := wI m a (ix i) x) (a := a) z oq ?_ rfl rfl (fun b hb => ent_wI hb) (fun b h1 hb => hb.wI (by omega)) _)
  rw [ent_bool (show mT (wI m a (ix i) x) a = 34 from ht), aI_wI]
  show H1[α a]? = some (vp_cell _ _)
  rw [e1, vp_cell_i, vp_cell_i, arrV_store]
  congr 2
  funext q
  by_cases hq : q = i.toNatClampNeg
  · subst hq
    rcases hz with rfl | rfl <;> simp [updV, upd, ix, narrow]
  · simp [updV, upd, hq, ix]
theorem r_last {x : Int64} (hd : decode M.2.1 pc = .ok (.lastore, 1)) (ht : mT m a = 35) (hi : inb i (mN m a) = true) (h : Run M (pc + 1) ls st (wL m a (ix i) x) v m') : Run M pc ls (.long x :: .int i :: .ref a :: st) m v m' := by
  refine ⟨h.1, h.2.1, fun G α p l e R s mid args below meth c H locs cells slots lsA kc ks B => ?_⟩
  have Y := B.2.2.2.1
  have C := B.2.1
  have ha : a < mC m := Y.lt (by omega)
  have hP := Y.one ha
  rw [ent_long ht] at hP
  refine W.last C.1 C.2.1 (hP 0 _ rfl) ((C.2.2.2.2.2.2.2.2.1.1.2 3 _ rfl).1 (mN m a) (fun j => .long (aL m a j))) (fun q => by cases q) (by show ¬ (i < 0 ∨ (arrV _ _ _).slots.size ≤ _); rw [arrV_size]; exact inb_vp hi) rfl rfl hd fun H1 e1 z oq => ?_
  refine h.2.2 G α p l e R s mid args below meth c H1 _ cells slots lsA kc ks (B.put (m1 := wL m a (ix i) x) (a := a) z oq ?_ rfl rfl (fun b hb => ent_wL hb) (fun b h1 hb => hb.wL (by omega)) _)
  rw [ent_long (show mT (wL m a (ix i) x) a = 35 from ht), aL_wL]
  show H1[α a]? = some (vp_cell _ _)
  rw [e1, vp_cell_l, vp_cell_l, arrV_store]
  congr 2
  funext q
  by_cases hq : q = i.toNatClampNeg
  · subst hq; simp [updV, vp_updL, ix]
  · simp [updV, vp_updL, hq, ix]
/-- which objects an array of references takes -/
def cmp_of (j : Nat) : Nat := if j = 0 then 2 else if j = 1 then 10 else 0
theorem r_aast {j : Nat} (hj : j < 3) {o : Option Nat} (hd : decode M.2.1 pc = .ok (.aastore, 1)) (ht : mT m a = 36 + j) (hi : inb i (mN m a) = true) (ho : ∀ b, o = some b → mT m b = cmp_of j + 1) (h : Run M (pc + 1) ls st (wR m a (ix i) o) v m') : Run M pc ls (va_rf o :: .int i :: .ref a :: st) m v m' := by
  refine ⟨h.1, h.2.1, fun G α p l e R s mid args below meth c H locs cells slots lsA kc ks B => ?_⟩
  have Y := B.2.2.2.1
  have C := B.2.1
  have ha : a < mC m := Y.lt (by omega)
  have hP := Y.one ha
  rw [ent_refs ht] at hP
  have fin : ∀ (o2 : Option Nat), o2 = o.map α → ∀ (H1 : Heap), H1[α a]? = some ((vp_cell (G.2.1 (4 + j)) (mN m a, .inr (.inr (.inr (.inr (fun i => (aR m a i).map α)))))).setSlot i.toNatClampNeg (va_rf o2)) → H1.size = H.size → (∀ q : Nat, q ≠ α a → H1[q]? = H[q]?) → W p l e R s mid args below meth c H1 (locs ++ [⟨α a, i.toNatClampNeg⟩]) cells slots (MQ below (Qr G α v m') args s kc ks (Ad α)) (F0 mid (pc + 1) lsA (st.map (cv G α))) := by
    intro o2 ho2 H1 e1 z oq
    refine h.2.2 G α p l e R s mid args below meth c H1 _ cells slots lsA kc ks (B.put (m1 := wR m a (ix i) o) (a := a) z oq ?_ rfl rfl (fun b hb => ent_wR hb) (fun b h1 hb => hb.wR (by omega)) _)
    rw [ent_refs (show mT (wR m a (ix i) o) a = 36 + j from ht), aR_wR]
    show H1[α a]? = some (vp_cell _ _)
    rw [e1, vp_cell_q, vp_cell_q, arrV_store]
    congr 2
    funext q
    by_cases hq : q = i.toNatClampNeg
    · subst hq; simp [updV, va_up, ix, ho2]
    · simp [updV, va_up, hq, ix]
  have hty : ∃ r : vw_C, (q_tys G)[4 + j]? = some (G.2.1 (4 + j), .object r.1) ∧ q_cl[cmp_of j]? = some r := by
    match j, hj with
    | 0, _ => exact ⟨_, rfl, rfl⟩
    | 1, _ => exact ⟨_, rfl, rfl⟩
    | 2, _ => exact ⟨_, rfl, rfl⟩
  obtain ⟨r, ht4, hr4⟩ := hty
  have hlt : i.toNatClampNeg < mN m a := Nat.not_le.mp fun q => inb_vp hi (Or.inr q)
  have h0 : ¬ i < 0 := fun q => inb_vp hi (Or.inl q)
  cases o with
  | none =>
    exact va_WaastN (C := r.1) C.1 C.2.1 (hP 0 _ rfl) ((C.2.2.2.2.2.2.2.2.1.1.2 (4 + j) _ ht4).1 (mN m a) (fun i => va_rf ((aR m a i).map α))) (fun q => by cases q) (by show ¬ (i < 0 ∨ (arrV _ _ _).slots.size ≤ _); rw [arrV_size]; exact inb_vp hi) rfl rfl hd (fin none rfl)
  | some b =>
    have hb := ho b rfl
    have hbC : b < mC m := Y.lt (by omega)
    have hat := Y.1 b hbC
    have hcj : cmp_of j < 31 := by unfold cmp_of; split <;> (try split) <;> omega
    rw [ent_obj hb hcj] at hat
    obtain ⟨r', hr', cellV, g1, g2, g3, -⟩ := hat
    have hcls := (C.2.2.2.2.2.2.2.2.1.1.1 (cmp_of j) r hr4).2
    obtain ⟨kA, comp, k1, k2, k3, -⟩ := (C.2.2.2.2.2.2.2.2.1.1.2 (4 + j) _ ht4).2
    have hcomp : comp = G.1.1 (cmp_of j) := Option.some.inj (k3.symm.trans hcls.1)
    subst hcomp
    obtain ⟨kC, hkC, -⟩ := hcls.2
    exact W.aast C.1 C.2.1 (hP 0 _ rfl) (fun q h => by cases h) (fun h => by cases h) k1 k2 rfl hkC ⟨h0, by show _ < (arrV _ _ _).slots.size; rw [arrV_size]; exact hlt⟩ g1 (fun q h => by rw [g3] at h; cases h) (by rw [g2]; exact hkC) (by rw [g2]; exact va_assign hcls) rfl rfl hd (fin (some (α b)) rfl)
end Arr
