/-! rows of fields, arrays, returns -/
section Heap1
variable {G : GG} {α : Nat → Nat} {m m1 : Mem} {H H1 : Heap} {a b : Nat}
theorem MW.lt (h : MW G α m H) (ht : mT m a ≠ 0) : a < mC m := Nat.lt_of_not_le fun q => ht (h.2.2 a q).1
theorem MW.one (h : MW G α m H) (ha : a < mC m) : va_P G.1 q_cl [(α a, enM G α m a)] H := by
  intro k q hq
  match k, hq with
  | 0, hq => cases hq; exact h.1 a ha
  | k + 1, hq => simp at hq
theorem MW.put (hM : MW G α m H) (J : ∀ i j, α i = α j → i = j) (e2 : H1.size = H.size) (e3 : ∀ q : Nat, q ≠ α a → H1[q]? = H[q]?) (he : va_at G.1 q_cl (α a, enM G α m1 a) H1) (hC : mC m1 = mC m)
    (ho : ∀ b, b ≠ a → enM G α m1 b = enM G α m b) (hb : ∀ b, mC m ≤ b → Blk m b → Blk m1 b) : MW G α m1 H1 := by
  refine ⟨fun b hbl => ?_, fun j => by rw [hC, e2]; exact hM.2.1 j, fun b hbl => hb b (by rw [← hC]; exact hbl) (hM.2.2 b (by rw [← hC]; exact hbl))⟩
  by_cases q : b = a
  · subst q; exact he
  · rw [ho b q]
    exact (hM.1 b (by rw [← hC]; exact hbl)).kept (e3 _ (fun z => q (J _ _ z)))
theorem ent_congr (hT : mT m1 b = mT m b) (hN : mN m1 b = mN m b) (hI : ∀ f, mI m1 f b = mI m f b) (hL : ∀ f, mL m1 f b = mL m f b) (hR : ∀ f, mR m1 f b = mR m f b) (qI : aI m1 b = aI m b) (qL : aL m1 b = aL m b) (qR : aR m1 b = aR m b) : enM G α m1 b = enM G α m b := by
  unfold enM fv
  simp only [hT, hN, hI, hL, hR, qI, qL, qR]
theorem ent_obj {ci : Nat} (ht : mT m a = ci + 1) (hc : ci < 31) : enM G α m a = .inr (ci, (List.range (q_sz ci)).map (fun k => fv α m ci k a)) := by
  unfold enM
  rw [if_pos (by omega), ht]
  rfl
theorem ent_int (ht : mT m a = 32) : enM G α m a = .inl (G.2.1 0, mN m a, .inl (aI m a)) := by
  unfold enM
  rw [if_neg (by omega), if_neg (by omega), if_pos (by omega), ht]
theorem ent_byte (ht : mT m a = 33) : enM G α m a = .inl (G.2.1 1, mN m a, .inl (aI m a)) := by
  unfold enM
  rw [if_neg (by omega), if_neg (by omega), if_pos (by omega), ht]
theorem ent_bool (ht : mT m a = 34) : enM G α m a = .inl (G.2.1 2, mN m a, .inl (aI m a)) := by
  unfold enM
  rw [if_neg (by omega), if_neg (by omega), if_pos (by omega), ht]
theorem ent_long (ht : mT m a = 35) : enM G α m a = .inl (G.2.1 3, mN m a, .inr (.inl (aL m a))) := by
  unfold enM
  rw [if_neg (by omega), if_pos ht]
theorem ent_refs {j : Nat} (ht : mT m a = 36 + j) : enM G α m a = .inl (G.2.1 (4 + j), mN m a, .inr (.inr (.inr (.inr (fun i => (aR m a i).map α))))) := by
  unfold enM
  rw [if_neg (by omega), if_neg (by omega), if_neg (by omega), ht, show 36 + j - 32 = 4 + j by omega]
end Heap1
def fkd : FieldType → Nat
  | .long => 1
  | .object _ => 2
  | .array _ => 2
  | .boolean => 3
  | .int => 0
  | _ => 4
/-- entry idx of own's pool is the field fid of objects ci, of kind kd -/
def lkG (own : String) (idx fid ci kd : Nat) : Prop := ci < 31 ∧ ∃ (k : Nat) (C : String) (T : u_T) (N : Nat), q_cl[ci]? = some (C, T, N) ∧ k < N ∧ N ≤ 128 ∧ fid = 128 * ci + k ∧ Cond.fieldLink own idx (T k).1 (T k).2.1 (T k).2.2.1 ∈ g_tbl ∧ fkd (q_ty ci k) = kd
/-- and it may be written by the method nm of own -/
def lkP (own nm : String) (idx fid ci kd : Nat) : Prop := ci < 31 ∧ ∃ (k : Nat) (C : String) (T : u_T) (N : Nat), q_cl[ci]? = some (C, T, N) ∧ k < N ∧ N ≤ 128 ∧ fid = 128 * ci + k ∧ Cond.fieldLink own idx (T k).1 (T k).2.1 (T k).2.2.1 ∈ g_tbl ∧ fkd (q_ty ci k) = kd ∧ ((T k).2.2.2 = false ∨ ((T k).2.2.2 = true ∧ nm = "<init>" ∧ (T k).1 = own))
theorem fv_int {α : Nat → Nat} {m : Mem} {ci k a : Nat} (h1 : fkd (q_ty ci k) ≠ 1) (h2 : fkd (q_ty ci k) ≠ 2) : fv α m ci k a = .int (mI m (128 * ci + k) a) := by
  unfold fv
  generalize q_ty ci k = ty at h1 h2
  cases ty <;> simp_all [fkd]
theorem fv_long {α : Nat → Nat} {m : Mem} {ci k a : Nat} (h1 : fkd (q_ty ci k) = 1) : fv α m ci k a = .long (mL m (128 * ci + k) a) := by
  unfold fv
  generalize q_ty ci k = ty at h1
  cases ty <;> simp_all [fkd]
theorem fv_ref {α : Nat → Nat} {m : Mem} {ci k a : Nat} (h1 : fkd (q_ty ci k) = 2) : fv α m ci k a = va_rf ((mR m (128 * ci + k) a).map α) := by
  unfold fv
  generalize q_ty ci k = ty at h1
  cases ty <;> simp_all [fkd]
theorem q_sz_of {ci : Nat} {C : String} {T : u_T} {N : Nat} (hc : q_cl[ci]? = some (C, T, N)) : q_sz ci = N := by
  unfold q_sz
  rw [hc]
section Fields
variable {M : MI} {pc : Nat} {ls : List (Nat × Value)} {st : List Value} {m m' : Mem} {v : Option Value} {idx fid ci kd a : Nat}
/-- a field is read: what stands there -/
theorem r_get (hd : decode M.2.1 pc = .ok (.getfield idx, 3)) (hl : lkG M.1.cls idx fid ci kd) (ht : mT m a = ci + 1) (x : Value) (hx : ∀ (G : GG) (α : Nat → Nat) (k : Nat), fid = 128 * ci + k → fkd (q_ty ci k) = kd → fv α m ci k a = cv G α x) (h : Run M (pc + 3) ls (x :: st) m v m') : Run M pc ls (.ref a :: st) m v m' :=
  h.up fun G α p l e R s mid args below meth c H locs cells slots lsA Q J C L W q => by
    obtain ⟨hci, k, C0, T, N, hc, hk, hN, hf, hw, hkd⟩ := hl
    have ha : a < mC m := W.lt (by omega)
    have hsz := q_sz_of hc
    have he : enM G α m a = .inr (ci, (List.range N).map (fun k => fv α m ci k a)) := by rw [ent_obj ht hci, hsz]
    have hP := W.one ha
    rw [he] at hP
    exact va_get (own := M.1.cls) (ref := (T k).1) C.1 C.2.1 C.2.2.2.2.2.2.2.1 (q_ok ci _ hc).1 C.2.2.2.2.2.2.1 C.2.2.2.2.2.2.2.2.1.1 hP 0 rfl hc k hk (C.2.2.2.2.2.2.2.1 _ hw) (fun _ h => h) (by simp [hk]; exact hx G α k hf hkd) hd q
theorem r_getI (hd : decode M.2.1 pc = .ok (.getfield idx, 3)) (hl : lkG M.1.cls idx fid ci kd) (hk : kd = 0 ∨ kd = 3) (ht : mT m a = ci + 1) (h : Run M (pc + 3) ls (.int (mI m fid a) :: st) m v m') : Run M pc ls (.ref a :: st) m v m' :=
  r_get hd hl ht _ (fun G α k hf hkd => by rw [hf]; exact fv_int (by omega) (by omega)) h
theorem r_getL (hd : decode M.2.1 pc = .ok (.getfield idx, 3)) (hl : lkG M.1.cls idx fid ci 1) (ht : mT m a = ci + 1) (h : Run M (pc + 3) ls (.long (mL m fid a) :: st) m v m') : Run M pc ls (.ref a :: st) m v m' :=
  r_get hd hl ht _ (fun G α k hf hkd => by rw [hf]; exact fv_long hkd) h
theorem r_getR (hd : decode M.2.1 pc = .ok (.getfield idx, 3)) (hl : lkG M.1.cls idx fid ci 2) (ht : mT m a = ci + 1) {o : Option Nat} (ho : mR m fid a = o) (h : Run M (pc + 3) ls (va_rf o :: st) m v m') : Run M pc ls (.ref a :: st) m v m' :=
  r_get hd hl ht _ (fun G α k hf hkd => by rw [cv_rf, ← ho, hf]; exact fv_ref hkd) h
/-- a field is written -/
theorem r_put (hd : decode M.2.1 pc = .ok (.putfield idx, 3)) (hl : lkP M.1.cls M.1.name idx fid ci kd) (ht : mT m a = ci + 1) {m1 : Mem} {x : Value} (hC : mC m1 = mC m) (hS : mS m1 = mS m) (hT : mT m1 = mT m) (hb : ∀ b, mC m ≤ b → a < mC m → Blk m b → Blk m1 b)
    (ho : ∀ (G : GG) (α : Nat → Nat) b, b ≠ a → enM G α m1 b = enM G α m b) (hx : ∀ (G : GG) (α : Nat → Nat) (k : Nat), fid = 128 * ci + k → fkd (q_ty ci k) = kd → fv α m1 ci k a = cv G α x)
    (hn : ∀ (G : GG) (α : Nat → Nat) (ty : FieldType), fkd ty = kd → narrow ty (cv G α x) = cv G α x ∧ fits ty (cv G α x) = true) (hne : ∀ (α : Nat → Nat) (j k : Nat), fid = 128 * ci + k → j ≠ k → fv α m1 ci j a = fv α m ci j a)
    (h : Run M (pc + 3) ls st m1 v m') : Run M pc ls (x :: .ref a :: st) m v m' := by
  refine ⟨hC ▸ h.1, hS ▸ h.2.1, fun G α p l e R s mid args below meth c H locs cells slots lsA kc ks B => ?_⟩
  obtain ⟨J, C, L, Y, S, e1, e2, r1, r2⟩ := B
  obtain ⟨hci, k, C0, T, N, hc, hk, hN, hf, hw, hkd, hfin⟩ := hl
  have ha : a < mC m := Y.lt (by omega)
  have hsz := q_sz_of hc
  have he : enM G α m a = .inr (ci, (List.range N).map (fun k => fv α m ci k a)) := by rw [ent_obj ht hci, hsz]
  have he1 : enM G α m1 a = .inr (ci, ((List.range N).map (fun k => fv α m ci k a)).set k (cv G α x)) := by
    rw [ent_obj (by rw [hT]; exact ht) hci, hsz]
    congr 2
    apply List.ext_getElem?
    intro j
    rw [List.getElem?_set]
    by_cases hj : k = j
    · subst hj
      simp [hk, hx G α k hf hkd]
    · rw [if_neg hj]
      by_cases hjN : j < N
      · simp [hjN, hne α j k hf (fun q => hj q.symm)]
      · simp [hjN]
  obtain ⟨q_in, q_tyok, q_nm⟩ := q_ok ci _ hc
  have hlen : k < ((List.range N).map (fun k => fv α m ci k a)).length := by simp [hk]
  have hap := va_apart (own := M.1.cls) C.2.2.2.2.2.2.2.1 q_in (q_ty ci) q_tyok q_nm C.2.2.2.2.2.2.2.2.1.1 hc
  have hat := Y.1 a ha
  rw [he] at hat
  obtain ⟨r, h1, cell, q1, q2, q3, q4⟩ := hat
  have hr : r = (C0, T, N) := Option.some.inj (h1.symm.trans hc)
  subst hr
  obtain ⟨hSl, hfc, kC, hkC, hkind⟩ := C.2.2.2.2.2.2.2.2.1.1.1 ci _ hc
  obtain ⟨cf, kf, fi, f, hi, hsl⟩ := hSl k hk
  have hlay := C.2.2.2.2.2.2.2.1 _ (q_in _ (u_in_lay hk))
  unfold u_lay at hlay
  have hst := (u_facts hfc hkC (u_lays C.2.2.2.2.2.2.2.1 q_in hk) hi).1
  have hnn := hn G α (q_ty ci k) hkd
  have fin : ∀ (H' : Heap), H'[α a]? = some (cell.setSlot f.slot (cv G α x)) → H'.size = H.size → (∀ q : Nat, q ≠ α a → H'[q]? = H[q]?) → W p l e R s mid args below meth c H' (locs ++ [⟨α a, f.slot⟩]) cells slots (MQ below (Qr G α v m') args s kc ks (Ad α)) (F0 mid (pc + 3) lsA (st.map (cv G α))) := by
    intro H' g1 g2 g3
    rw [hsl] at g1 ⊢
    have hat2 : va_at G.1 q_cl (α a, enM G α m1 a) H' := by
      rw [he1]
      exact ⟨_, hc, t_OB.to (V := updV (vp_V ((List.range N).map (fun k => fv α m ci k a))) k (cv G α x)) ⟨_, g1, q2, q3, t_set q4 hap hk _⟩ (fun j _ => vp_updV_set hlen _ j)⟩
    exact h.2.2 G α p l e R s mid args below meth c H' _ cells slots lsA kc ks ⟨J, C, L, Y.put J g2 g3 hat2 hC (fun b hb => ho G α b hb) (fun b hb2 => hb b hb2 ha), S.put g2 g3 ⟨a, rfl⟩, by rw [hC]; exact e1, by rw [hS]; exact e2, r1, r2⟩
  rcases hfin with hfin | ⟨hfin, hnm, hdecl⟩
  · rw [if_neg (by rw [hfin]; decide)] at hlay
    have h6 := u_store hfc hkC hkind hlay hi (q_tyok k hk) hnn.1 hnn.2
    exact W.putK C.1 C.2.1 (f := f) ⟨C.2.2.2.2.2.2.1, C.2.2.2.2.2.2.2.1 _ hw, ⟨_, _, _, hi⟩, hst⟩ (by rw [q2]; exact h6) q1 q3 (by rw [hsl]; exact k2_hasslot (q4 k hk)) rfl rfl hd fin
  · rw [if_pos hfin] at hlay
    have hcf : mid.cls = cf := by
      obtain ⟨_, _, c', _, _, _, -, -, hf', -, -, -, hown2, -⟩ := Cond.laysFinal_spec hlay
      have e1 : c' = cf := by have := hi.symm.trans hf'; simp at this; exact this.1.symm
      rw [hdecl] at hown2
      rw [← e1]; exact Option.some.inj (C.2.2.2.2.2.2.1.symm.trans hown2)
    have h6 := u_fits hfc hkC hkind (Or.inr hlay) hi (q_tyok k hk) hnn.1 hnn.2
    exact W.putFinK C.1 C.2.1 C.2.2.2.2.2.2.1 (C.2.2.2.2.2.2.2.1 _ hw) hi hst hcf (C.2.2.2.2.2.1.trans hnm) (by rw [q2]; exact h6) q1 q3 (by rw [hsl]; exact k2_hasslot (q4 k hk)) rfl rfl hd fin
theorem Blk.sI {f b : Nat} {x : Int32} (hb : Blk m b) (h : b ≠ a) : Blk (sI m f a x) b := ⟨hb.1, fun g => ⟨by show up2 (mI m) f a x g b = 0; rw [up2_ne (fun q => h q.2)]; exact (hb.2.1 g).1, (hb.2.1 g).2.1, (hb.2.1 g).2.2⟩, hb.2.2⟩
theorem Blk.sL {f b : Nat} {x : Int64} (hb : Blk m b) (h : b ≠ a) : Blk (sL m f a x) b := ⟨hb.1, fun g => ⟨(hb.2.1 g).1, by show up2 (mL m) f a x g b = 0; rw [up2_ne (fun q => h q.2)]; exact (hb.2.1 g).2.1, (hb.2.1 g).2.2⟩, hb.2.2⟩
theorem Blk.sR {f b : Nat} {x : Option Nat} (hb : Blk m b) (h : b ≠ a) : Blk (sR m f a x) b := ⟨hb.1, fun g => ⟨(hb.2.1 g).1, (hb.2.1 g).2.1, by show up2 (mR m) f a x g b = none; rw [up2_ne (fun q => h q.2)]; exact (hb.2.1 g).2.2⟩, hb.2.2⟩
theorem r_putI {x : Int32} (hd : decode M.2.1 pc = .ok (.putfield idx, 3)) (hl : lkP M.1.cls M.1.name idx fid ci 0) (ht : mT m a = ci + 1) (h : Run M (pc + 3) ls st (sI m fid a x) v m') : Run M pc ls (.int x :: .ref a :: st) m v m' :=
  r_put hd hl ht (m1 := sI m fid a x) rfl rfl rfl (fun b h1 h2 hb => hb.sI (by omega)) (fun G α b hb => ent_congr rfl rfl (fun f => up2_ne (fun q => hb q.2)) (fun _ => rfl) (fun _ => rfl) rfl rfl rfl)
    (fun G α k hf hkd => by rw [fv_int (by omega) (by omega), ← hf]; show Value.int (up2 (mI m) fid a x fid a) = _; rw [up2_eq]; rfl)
    (fun G α ty hkd => by cases ty <;> simp_all [fkd, narrow, fits, cv]) (fun α j k hf hj => by unfold fv; rw [show mI (sI m fid a x) (128 * ci + j) a = mI m (128 * ci + j) a from up2_ne (fun q => hj (by omega))]; rfl) h
theorem r_putZ {x : Int32} (hz : x = 0 ∨ x = 1) (hd : decode M.2.1 pc = .ok (.putfield idx, 3)) (hl : lkP M.1.cls M.1.name idx fid ci 3) (ht : mT m a = ci + 1) (h : Run M (pc + 3) ls st (sI m fid a x) v m') : Run M pc ls (.int x :: .ref a :: st) m v m' :=
  r_put hd hl ht (m1 := sI m fid a x) rfl rfl rfl (fun b h1 h2 hb => hb.sI (by omega)) (fun G α b hb => ent_congr rfl rfl (fun f => up2_ne (fun q => hb q.2)) (fun _ => rfl) (fun _ => rfl) rfl rfl rfl)
    (fun G α k hf hkd => by rw [fv_int (by omega) (by omega), ← hf]; show Value.int (up2 (mI m) fid a x fid a) = _; rw [up2_eq]; rfl)
    (fun G α ty hkd => by rcases hz with rfl | rfl <;> cases ty <;> simp_all [fkd, narrow, fits, cv]) (fun α j k hf hj => by unfold fv; rw [show mI (sI m fid a x) (128 * ci + j) a = mI m (128 * ci + j) a from up2_ne (fun q => hj (by omega))]; rfl) h
theorem r_putL {x : Int64} (hd : decode M.2.1 pc = .ok (.putfield idx, 3)) (hl : lkP M.1.cls M.1.name idx fid ci 1) (ht : mT m a = ci + 1) (h : Run M (pc + 3) ls st (sL m fid a x) v m') : Run M pc ls (.long x :: .ref a :: st) m v m' :=
  r_put hd hl ht (m1 := sL m fid a x) rfl rfl rfl (fun b h1 h2 hb => hb.sL (by omega)) (fun G α b hb => ent_congr rfl rfl (fun _ => rfl) (fun f => up2_ne (fun q => hb q.2)) (fun _ => rfl) rfl rfl rfl)
    (fun G α k hf hkd => by rw [fv_long hkd, ← hf]; show Value.long (up2 (mL m) fid a x fid a) = _; rw [up2_eq]; rfl)
    (fun G α ty hkd => by cases ty <;> simp_all [fkd, narrow, fits, cv]) (fun α j k hf hj => by unfold fv; rw [show mL (sL m fid a x) (128 * ci + j) a = mL m (128 * ci + j) a from up2_ne (fun q => hj (by omega))]; rfl) h
theorem r_putR {o : Option Nat} (hd : decode M.2.1 pc = .ok (.putfield idx, 3)) (hl : lkP M.1.cls M.1.name idx fid ci 2) (ht : mT m a = ci + 1) (h : Run M (pc + 3) ls st (sR m fid a o) v m') : Run M pc ls (va_rf o :: .ref a :: st) m v m' :=
  r_put hd hl ht (m1 := sR m fid a o) rfl rfl rfl (fun b h1 h2 hb => hb.sR (by omega)) (fun G α b hb => ent_congr rfl rfl (fun _ => rfl) (fun _ => rfl) (fun f => up2_ne (fun q => hb q.2)) rfl rfl rfl)
    (fun G α k hf hkd => by rw [fv_ref hkd, ← hf, cv_rf]; show va_rf ((up2 (mR m) fid a o fid a).map α) = _; rw [up2_eq])
    (fun G α ty hkd => by rw [cv_rf]; cases o <;> cases ty <;> simp_all [fkd, narrow, fits, va_rf]) (fun α j k hf hj => by unfold fv; rw [show mR (sR m fid a o) (128 * ci + j) a = mR m (128 * ci + j) a from up2_ne (fun q => hj (by omega))]; rfl) h
end Fields
