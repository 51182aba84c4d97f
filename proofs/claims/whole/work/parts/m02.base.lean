/-! The abstract memory, the judgement Run, and its rows. A method: name, bytes, locals, return type, room of frames, room of locals. -/
abbrev MI : Type := MethodName × ByteArray × Nat × Option FieldType × Nat × Nat
/-- ids of objects and slots; ids of array kinds; where String constants and their bytes lie -/
abbrev GG : Type := va_G × (Nat → ClassId) × (Nat → Nat) × (Nat → Nat)
def q_tys (G : GG) : List (ClassId × FieldType) := [(G.2.1 0, .int), (G.2.1 1, .byte), (G.2.1 2, .boolean), (G.2.1 3, .long), (G.2.1 4, .object q_R2), (G.2.1 5, .object q_R10), (G.2.1 6, .object q_R0)]
def cv (G : GG) (α : Nat → Nat) : Value → Value
  | .ref i => .ref (α i)
  | .retAddr j => .ref (G.2.2.1 j)
  | v => v
def fv (α : Nat → Nat) (m : Mem) (ci k a : Nat) : Value := match q_ty ci k with
  | .long => .long (mL m (128 * ci + k) a)
  | .object _ => va_rf ((mR m (128 * ci + k) a).map α)
  | .array _ => va_rf ((mR m (128 * ci + k) a).map α)
  | _ => .int (mI m (128 * ci + k) a)
def q_sz (ci : Nat) : Nat := match q_cl[ci]? with
  | some r => r.2.2
  | none => 0
def enM (G : GG) (α : Nat → Nat) (m : Mem) (a : Nat) : va_E :=
  if mT m a < 32 then .inr (mT m a - 1, (List.range (q_sz (mT m a - 1))).map (fun k => fv α m (mT m a - 1) k a))
  else if mT m a = 35 then .inl (G.2.1 3, mN m a, .inr (.inl (aL m a)))
  else if mT m a < 35 then .inl (G.2.1 (mT m a - 32), mN m a, .inl (aI m a))
  else .inl (G.2.1 (mT m a - 32), mN m a, .inr (.inr (.inr (.inr (fun j => (aR m a j).map α)))))
def Blk (m : Mem) (a : Nat) : Prop := mT m a = 0 ∧ (∀ f, mI m f a = 0 ∧ mL m f a = 0 ∧ mR m f a = none) ∧ ∀ j, aI m a j = 0 ∧ aL m a j = 0 ∧ aR m a j = none
def MW (G : GG) (α : Nat → Nat) (m : Mem) (H : Heap) : Prop := (∀ a, a < mC m → va_at G.1 q_cl (α a, enM G α m a) H) ∧ (∀ j, α (mC m + j) = H.size + j) ∧ ∀ a, mC m ≤ a → Blk m a
def Ad (α : Nat → Nat) : Nat → Prop := fun q => ∃ i, q = α i
/-- the formatter of bad indexes, where there is one -/
def fmO (G : GG) : Option Nat := if G.2.2.1 9 = 1 then none else some (G.2.2.1 8)
/-- what String constants' own methods read: where their bytes lie, two statics -/
def Kz (G : GG) (α : Nat → Nat) (U : State) : Prop := (∀ j, j < 4 → G.2.2.1 (j + 4) = G.2.2.2 j) ∧ va_Z "java/lang/String" "COMPACT_STRINGS" "Z" (.int 1) (Ad α) U U.heap ∧ va_Z "jdk/internal/util/Preconditions" "SIOOBE_FORMATTER" "Ljava/util/function/BiFunction;" (va_rf (fmO G)) (Ad α) U U.heap
/-- what of the start stays: the tables, nest mates' calls, arrays of references, String constants -/
def Kx (G : GG) (α : Nat → Nat) (U : State) : Prop := va_K G.1 q_cl (q_tys G) U ∧ (∀ q ∈ n_tbl, va_Nw (.methodLinkNest q.1 q.2.1 q.2.2.1 q.2.2.2) U) ∧ (va_AO q_R2 U ∧ va_AO q_R10 U ∧ va_AO q_R0 U) ∧ (∀ (j : Nat) (q : String × Nat × String), s_tbl[j]? = some q → vk_R q.1 q.2.1 q.2.2 (G.2.2.1 j) U) ∧ vk_S 4 s_len s_byt G.2.2.1 G.2.2.2 (Ad α) U U.heap ∧ Kz G α U
def Cx (G : GG) (α : Nat → Nat) (M : MI) (p : Program) (R : Room) (s : State) (mid : MethodId) (args : Array Value) (meth : Method) (c : Code) : Prop :=
  p.tables.exec = Jvm.exec ∧ c.code = M.2.1 ∧ c.maxLocals = M.2.2.1 ∧ meth.sig.returnType = M.2.2.2.1 ∧ meth.locks = false ∧ meth.name = M.1.name ∧ s.vm.findClass M.1.cls = some mid.cls ∧ (∀ w ∈ g_tbl, w.before args s = true) ∧ Kx G α s ∧ M.2.2.2.2.1 ≤ R.frames ∧ M.2.2.2.2.2 ≤ R.locals
def Qr (G : GG) (α : Nat → Nat) (v : Option Value) (m' : Mem) : Array Value → State → Outcome → State → Prop := fun _ st o t => o = .returned (v.map (cv G α)) ∧ MW G α m' t.heap ∧ va_F (Ad α) st t
def lm (G : GG) (α : Nat → Nat) (ls : List (Nat × Value)) : List (Nat × Value) := ls.map (fun q => (q.1, cv G α q.2))
def Bx (G : GG) (α : Nat → Nat) (M : MI) (ls : List (Nat × Value)) (m m' : Mem) (p : Program) (R : Room) (s : State) (mid : MethodId) (args : Array Value) (meth : Method) (c : Code) (H : Heap) (locs : List Loc) (cells slots : Nat) (lsA : Array Slot) (kc ks : Nat) : Prop :=
  (∀ i j, α i = α j → i = j) ∧ Cx G α M p R s mid args meth c ∧ lv_has lsA M.2.2.1 (lm G α ls) ∧ MW G α m H ∧ va_S (Ad α) s.heap H locs ∧ cells + mC m' = kc + mC m ∧ slots + mS m' = ks + mS m ∧ kc ≤ R.cells ∧ ks ≤ R.slots
/-- the method M, at pc, with these locals, this stack and memory, comes to its return with v and m' -/
def Run (M : MI) (pc : Nat) (ls : List (Nat × Value)) (st : List Value) (m : Mem) (v : Option Value) (m' : Mem) : Prop :=
  mC m ≤ mC m' ∧ mS m ≤ mS m' ∧ ∀ (G : GG) (α : Nat → Nat) (p : Program) (l : Launch) (e : Env) (R : Room) (s : State) (mid : MethodId) (args : Array Value) (below : List Frame) (meth : Method) (c : Code) (H : Heap) (locs : List Loc) (cells slots : Nat) (lsA : Array Slot) (kc ks : Nat),
    Bx G α M ls m m' p R s mid args meth c H locs cells slots lsA kc ks → W p l e R s mid args below meth c H locs cells slots (MQ below (Qr G α v m') args s kc ks (Ad α)) (F0 mid pc lsA (st.map (cv G α)))
section Rows
variable {M : MI} {pc : Nat} {ls : List (Nat × Value)} {st : List Value} {m m' : Mem} {v : Option Value}
/-- a row that touches the stack alone -/
theorem Run.up {pc' : Nat} {st' : List Value} (h : Run M pc' ls st' m v m')
    (f : ∀ (G : GG) (α : Nat → Nat) (p : Program) (l : Launch) (e : Env) (R : Room) (s : State) (mid : MethodId) (args : Array Value) (below : List Frame) (meth : Method) (c : Code) (H : Heap) (locs : List Loc) (cells slots : Nat) (lsA : Array Slot) (Q : State → Prop), (∀ i j, α i = α j → i = j) → Cx G α M p R s mid args meth c → lv_has lsA M.2.2.1 (lm G α ls) → MW G α m H → W p l e R s mid args below meth c H locs cells slots Q (F0 mid pc' lsA (st'.map (cv G α))) → W p l e R s mid args below meth c H locs cells slots Q (F0 mid pc lsA (st.map (cv G α)))) : Run M pc ls st m v m' :=
  ⟨h.1, h.2.1, fun G α p l e R s mid args below meth c H locs cells slots lsA kc ks B => f G α p l e R s mid args below meth c H locs cells slots lsA _ B.1 B.2.1 B.2.2.1 B.2.2.2.1 (h.2.2 G α p l e R s mid args below meth c H locs cells slots lsA kc ks B)⟩
theorem cv_cat (G : GG) (α : Nat → Nat) (x : Value) : (cv G α x).category = x.category := by cases x <;> rfl
theorem cv_rf (G : GG) (α : Nat → Nat) (o : Option Nat) : cv G α (va_rf o) = va_rf (o.map α) := by cases o <;> rfl
theorem lm_at {G : GG} {α : Nat → Nat} {lsA : Array Slot} {nL : Nat} (h : lv_has lsA nL (lm G α ls)) (k : Nat) {i : Nat} {x : Value} (hk : ls[k]? = some (i, x)) : lsA[i]? = some (.val (cv G α x)) :=
  lv_at h k (by simp [lm, hk])
/-- fewer locals, in any order -/
theorem r_sub {ls' : List (Nat × Value)} (ks : List Nat) (hk : lv_pick ls ks = ls') (h : Run M pc ls' st m v m') : Run M pc ls st m v m' :=
  ⟨h.1, h.2.1, fun G α p l e R s mid args below meth c H locs cells slots lsA kc kz B => h.2.2 G α p l e R s mid args below meth c H locs cells slots lsA kc kz ⟨B.1, B.2.1, lv_sub B.2.2.1 ks (by
    subst hk
    simp only [lv_pick, lm, List.map_filterMap, List.getElem?_map]), B.2.2.2⟩⟩
theorem r_iconst {n : Int} {x : Int32} (hd : decode M.2.1 pc = .ok (.iconst n, 1)) (hv : Int32.ofInt n = x) (h : Run M (pc + 1) ls (.int x :: st) m v m') : Run M pc ls st m v m' :=
  h.up fun _ _ _ _ _ _ _ _ _ _ _ _ _ _ _ _ _ _ _ C _ _ k => lv_iconst C.1 C.2.1 hd hv k
theorem r_bipush {n : Int} {x : Int32} (hd : decode M.2.1 pc = .ok (.bipush n, 2)) (hv : (Int8.ofInt n).toInt32 = x) (h : Run M (pc + 2) ls (.int x :: st) m v m') : Run M pc ls st m v m' :=
  h.up fun _ _ _ _ _ _ _ _ _ _ _ _ _ _ _ _ _ _ _ C _ _ k => lv_bipush C.1 C.2.1 hd hv k
theorem r_sipush {n : Int} {x : Int32} (hd : decode M.2.1 pc = .ok (.sipush n, 3)) (hv : (Int16.ofInt n).toInt32 = x) (h : Run M (pc + 3) ls (.int x :: st) m v m') : Run M pc ls st m v m' :=
  h.up fun _ _ _ _ _ _ _ _ _ _ _ _ _ _ _ _ _ _ _ C _ _ k => lv_sipush C.1 C.2.1 hd hv k
theorem r_lconst {n : Fin 2} {x : Int64} (hd : decode M.2.1 pc = .ok (.lconst n, 1)) (hv : Int64.ofNat (n : Nat) = x) (h : Run M (pc + 1) ls (.long x :: st) m v m') : Run M pc ls st m v m' :=
  h.up fun _ _ _ _ _ _ _ _ _ _ _ _ _ _ _ _ _ _ _ C _ _ k => lv_lconst C.1 C.2.1 hd hv k
theorem r_null (hd : decode M.2.1 pc = .ok (.aconst_null, 1)) (h : Run M (pc + 1) ls (.null :: st) m v m') : Run M pc ls st m v m' :=
  h.up fun _ _ _ _ _ _ _ _ _ _ _ _ _ _ _ _ _ _ _ C _ _ k => lv_null C.1 C.2.1 hd k
theorem r_iload {k i : Nat} {x : Int32} (hd : decode M.2.1 pc = .ok (.iload i, 2)) (hk : ls[k]? = some (i, .int x)) (h : Run M (pc + 2) ls (.int x :: st) m v m') : Run M pc ls st m v m' :=
  h.up fun _ _ _ _ _ _ _ _ _ _ _ _ _ _ _ _ _ _ _ C L _ q => lv_iload C.1 C.2.1 hd (lm_at L k hk) q
theorem r_iload_n {n : Fin 4} {k i : Nat} {x : Int32} (hd : decode M.2.1 pc = .ok (.iload_n n, 1)) (hi : (n : Nat) = i) (hk : ls[k]? = some (i, .int x)) (h : Run M (pc + 1) ls (.int x :: st) m v m') : Run M pc ls st m v m' :=
  h.up fun _ _ _ _ _ _ _ _ _ _ _ _ _ _ _ _ _ _ _ C L _ q => lv_iload_n C.1 C.2.1 hd hi (lm_at L k hk) q
theorem r_lload {k i : Nat} {x : Int64} (hd : decode M.2.1 pc = .ok (.lload i, 2)) (hk : ls[k]? = some (i, .long x)) (h : Run M (pc + 2) ls (.long x :: st) m v m') : Run M pc ls st m v m' :=
  h.up fun _ _ _ _ _ _ _ _ _ _ _ _ _ _ _ _ _ _ _ C L _ q => lv_lload C.1 C.2.1 hd (lm_at L k hk) q
theorem r_lload_n {n : Fin 4} {k i : Nat} {x : Int64} (hd : decode M.2.1 pc = .ok (.lload_n n, 1)) (hi : (n : Nat) = i) (hk : ls[k]? = some (i, .long x)) (h : Run M (pc + 1) ls (.long x :: st) m v m') : Run M pc ls st m v m' :=
  h.up fun _ _ _ _ _ _ _ _ _ _ _ _ _ _ _ _ _ _ _ C L _ q => lv_lload_n C.1 C.2.1 hd hi (lm_at L k hk) q
theorem r_aload {k i : Nat} {o : Option Nat} (hd : decode M.2.1 pc = .ok (.aload i, 2)) (hk : ls[k]? = some (i, va_rf o)) (h : Run M (pc + 2) ls (va_rf o :: st) m v m') : Run M pc ls st m v m' :=
  h.up fun _ _ _ _ _ _ _ _ _ _ _ _ _ _ _ _ _ _ _ C L _ q => by
    cases o with
    | none => exact lv_aloadN C.1 C.2.1 hd (lm_at L k hk) q
    | some a => exact lv_aload C.1 C.2.1 hd (lm_at L k hk) q
theorem r_aload_n {n : Fin 4} {k i : Nat} {o : Option Nat} (hd : decode M.2.1 pc = .ok (.aload_n n, 1)) (hi : (n : Nat) = i) (hk : ls[k]? = some (i, va_rf o)) (h : Run M (pc + 1) ls (va_rf o :: st) m v m') : Run M pc ls st m v m' :=
  h.up fun _ _ _ _ _ _ _ _ _ _ _ _ _ _ _ _ _ _ _ C L _ q => by
    cases o with
    | none => exact lv_aload_nN C.1 C.2.1 hd hi (lm_at L k hk) q
    | some a => exact lv_aload_n C.1 C.2.1 hd hi (lm_at L k hk) q
/-- a String constant -/
theorem r_aload_s {n : Fin 4} {k i j : Nat} (hd : decode M.2.1 pc = .ok (.aload_n n, 1)) (hi : (n : Nat) = i) (hk : ls[k]? = some (i, .retAddr j)) (h : Run M (pc + 1) ls (.retAddr j :: st) m v m') : Run M pc ls st m v m' :=
  h.up fun _ _ _ _ _ _ _ _ _ _ _ _ _ _ _ _ _ _ _ C L _ q => lv_aload_n C.1 C.2.1 hd hi (lm_at L k hk) q
end Rows
