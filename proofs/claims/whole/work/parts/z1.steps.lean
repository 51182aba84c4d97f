/-! Layer D: what stands between the law's calls, and its steps -/
/-- where the class's cells lie: the first, then, behind the reference's, what it makes later -/
def aP (b i : Nat) : Nat := if i < 51 then b + i else b + 82 + i
/-- where the reference's cells lie, in a heap of size z -/
def aQ (b z i : Nat) : Nat := if i < 82 then b + 51 + i else z + (i - 82)
theorem aP_inj (b : Nat) : ∀ i j, aP b i = aP b j → i = j := by
  intro i j h
  unfold aP at h
  split at h <;> split at h <;> omega
theorem aQ_inj {b z : Nat} (hz : b + 133 ≤ z) : ∀ i j, aQ b z i = aQ b z j → i = j := by
  intro i j h
  unfold aQ at h
  split at h <;> split at h <;> omega
theorem aQ_lt {b z i : Nat} (h : i < 82) : aQ b z i = b + 51 + i := if_pos h
theorem aP_ge (b : Nat) : ∀ i, b ≤ aP b i := by
  intro i
  unfold aP
  split <;> omega
theorem aQ_ge {b z : Nat} (hz : b + 133 ≤ z) : ∀ i, b ≤ aQ b z i := by
  intro i
  unfold aQ
  split <;> omega
theorem aP_aQ {b z i j : Nat} (h : aP b i = aQ b z j) (hz : aP b i < z) : False := by
  unfold aP at h hz
  unfold aQ at h
  by_cases c1 : i < 51
  · rw [if_pos c1] at h hz
    by_cases c2 : j < 82
    · rw [if_pos c2] at h
      omega
    · rw [if_neg c2] at h
      omega
  · rw [if_neg c1] at h hz
    by_cases c2 : j < 82
    · rw [if_pos c2] at h
      omega
    · rw [if_neg c2] at h
      omega
theorem aQ_aP {b a j : Nat} (ha : a < 82) (h : b + 51 + a = aP b j) : False := by
  unfold aP at h
  split at h <;> omega
def isR (t : FieldType) : Bool := match t with
  | .object _ => true
  | .array _ => true
  | _ => false
theorem map_al {α β : Nat → Nat} {o : Option Nat} (h : ∀ q, o = some q → α q = β q) : o.map α = o.map β := by
  cases o with
  | none => rfl
  | some q => exact congrArg some (h q rfl)
/-- a cell looks alike by two maps that agree on what it refers to -/
theorem enM_al {G : GG} {α β : Nat → Nat} {m : Mem} {a : Nat} (h1 : mT m a < 32 → ∀ k, k < q_sz (mT m a - 1) → isR (q_ty (mT m a - 1) k) = true → ∀ q, mR m (128 * (mT m a - 1) + k) a = some q → α q = β q) (h2 : 36 ≤ mT m a → ∀ j q, aR m a j = some q → α q = β q) : enM G α m a = enM G β m a := by
  unfold enM
  by_cases c : mT m a < 32
  · rw [if_pos c, if_pos c]
    refine congrArg (fun l => (Sum.inr (mT m a - 1, l) : va_E)) (List.map_congr_left fun k hk => ?_)
    have hk := List.mem_range.mp hk
    have h3 := h1 c k hk
    unfold fv
    generalize q_ty (mT m a - 1) k = ty at h3 ⊢
    cases ty with
    | object n => exact congrArg va_rf (map_al (h3 rfl))
    | array n => exact congrArg va_rf (map_al (h3 rfl))
    | _ => rfl
  · rw [if_neg c, if_neg c]
    by_cases c2 : mT m a = 35
    · rw [if_pos c2, if_pos c2]
    · rw [if_neg c2, if_neg c2]
      by_cases c3 : mT m a < 35
      · rw [if_pos c3, if_pos c3]
      · rw [if_neg c3, if_neg c3]
        have h4 : (fun j => (aR m a j).map α) = fun j => (aR m a j).map β := by
          funext j
          exact map_al (h2 (by omega) j)
        rw [h4]
theorem R_tg : ∀ a, a < 82 → R_cells[a]? = some (R_cells.getD a (0, 0, 0)) ∧ (R_cells.getD a (0, 0, 0)).1 = a ∧ (a = 0 ∨ 32 ≤ (R_cells.getD a (0, 0, 0)).2.1 ∧ (R_cells.getD a (0, 0, 0)).2.1 < 36) := by decide +kernel
theorem R_rf : ∀ k, k < 121 → isR (q_ty 12 k) = true → (R_refs.any fun q => q.1 == 1536 + k && q.2.1 == 0 && decide (q.2.2 < 82)) = true := by decide +kernel
theorem R_sz : q_sz 12 = 121 := by decide +kernel
theorem enM_R {G : GG} {α β : Nat → Nat} {r : Mem} {a : Nat} (h : RL r) (ha : a < 82) (hα : ∀ i, i < 82 → α i = β i) : enM G α r a = enM G β r a := by
  obtain ⟨t1, t2, t3⟩ := R_tg a ha
  have ht := (h.2.1 a _ t1).1
  rw [t2] at ht
  rcases t3 with rfl | ⟨t4, t5⟩
  · have ht : mT r 0 = 13 := (RC_0 h).1
    refine enM_al (fun _ k hk hr q hq => ?_) (fun q => absurd q (by omega))
    rw [ht] at hk hr hq
    have hk : k < 121 := by rw [← R_sz]; exact hk
    obtain ⟨x, hx, he⟩ := List.any_eq_true.mp (R_rf k hk hr)
    simp only [Bool.and_eq_true, beq_iff_eq, decide_eq_true_eq] at he
    obtain ⟨⟨e1, e2⟩, e3⟩ := he
    obtain ⟨i, hi⟩ := List.getElem?_of_mem hx
    have h3 := h.2.2 i x hi
    rw [e1, e2] at h3
    have h4 : mR r (1536 + k) 0 = some q := hq
    rw [h3] at h4
    cases h4
    exact hα _ e3
  · exact enM_al (fun q => absurd q (by omega)) (fun q => absurd q (by omega))
/-- the reference's world -/
def QW (G : GG) (b : Nat) (r : Mem) (H : Heap) : Prop := RL r ∧ (∀ a, a < 82 → va_at G.1 q_cl (b + 51 + a, enM G (fun i => b + 51 + i) r a) H) ∧ ∀ a, 82 ≤ a → Blk r a
section Wo
variable {G : GG} {b z : Nat} {p r : Mem} {H H1 : Heap}
theorem QW.to (h : QW G b r H) : MW G (aQ b H.size) r H := by
  obtain ⟨h1, h2, h3⟩ := h
  have h4 := h1.1.1
  refine ⟨fun a ha => ?_, fun j => ?_, fun a ha => h3 a (by omega)⟩
  · have ha : a < 82 := by omega
    rw [enM_R (α := aQ b H.size) (β := fun i => b + 51 + i) h1 ha (fun i hi => aQ_lt hi), aQ_lt ha]
    exact h2 a ha
  · rw [h4]
    unfold aQ
    rw [if_neg (by omega)]
    omega
theorem QW.of (hr : RL r) (h : MW G (aQ b z) r H) : QW G b r H ∧ H.size = z := by
  have h4 := hr.1.1
  refine ⟨⟨hr, fun a ha => ?_, fun a ha => h.2.2 a (by omega)⟩, ?_⟩
  · have h5 := h.1 a (by omega)
    rw [enM_R (α := aQ b z) (β := fun i => b + 51 + i) hr ha (fun i hi => aQ_lt hi), aQ_lt ha] at h5
    exact h5
  · have h5 := h.2.1 0
    rw [h4] at h5
    unfold aQ at h5
    rw [if_neg (by omega)] at h5
    omega
theorem QW.kept (h : QW G b r H) (k : ∀ q : Nat, q < H.size → ¬ Ad (aP b) q → H1[q]? = H[q]?) : QW G b r H1 :=
  ⟨h.1, fun a ha => by
    have w := h.2.1 a ha
    have w2 : b + 51 + a < H.size := w.lt
    exact w.kept (k _ w2 (fun ⟨i, e⟩ => aQ_aP ha e)), h.2.2⟩
theorem PW.kept (h : MW G (aP b) p H) (z : H1.size = H.size) (k : ∀ q : Nat, q < H.size → ¬ Ad (aQ b H.size) q → H1[q]? = H[q]?) : MW G (aP b) p H1 :=
  ⟨fun a ha => by
    have w := h.1 a ha
    have w2 : aP b a < H.size := w.lt
    exact w.kept (k _ w2 (fun ⟨i, e⟩ => aP_aQ e w2)), fun j => by rw [z]; exact h.2.1 j, h.2.2⟩
end Wo
/-- both worlds, apart from what was there before -/
def LJ (G : GG) (s : State) (p r : Mem) (H : Heap) : Prop := MW G (aP s.heap.size) p H ∧ QW G s.heap.size r H ∧ PL p ∧ s.heap.size + 133 ≤ H.size ∧ va_S (fun q => s.heap.size ≤ q) s.heap H []
/-- the law's machine -/
def Lx (G : GG) (p : Program) (s : State) (m : MethodId) (meth : Method) (c : Code) (b L : Nat) (xs : Nat → Int32) : Prop := lw_At p s m meth c b L xs ∧ (∀ w ∈ g_tbl, w.before #[Value.ref b] s = true) ∧ ∀ α : Nat → Nat, (∀ i, s.heap.size ≤ α i) → Kx G α s
abbrev WL (p : Program) (l : Launch) (e : Env) (s : State) (m : MethodId) (below : List Frame) (meth : Method) (c : Code) (b : Nat) (H : Heap) (cells slots : Nat) (Q : State → Prop) (ls : Array Slot) (pc : Nat) (st : List Value) : Prop := W p l e room_1 s m #[Value.ref b] below meth c H [] cells slots Q (F0 m pc ls st)
section Law
variable {p : Program} {l : Launch} {e : Env} {s : State} {m : MethodId} {below : List Frame} {meth : Method} {c : Code} {b L : Nat} {xs : Nat → Int32} {G : GG} {α : Nat → Nat} {H : Heap} {cells slots pc idx a ci : Nat} {ls : Array Slot} {Q : State → Prop} {mm m1 : Mem} {K : MI} {As rest st vs : List Value} {w : Option Value}
theorem S_ad (S : va_S (fun q => s.heap.size ≤ q) s.heap H []) : va_S (Ad α) s.heap H [] := ⟨S.1, fun q h1 _ => S.2.1 q h1 (Nat.not_le.mpr h1), fun q hq => by cases hq⟩
theorem law_on {A : Array Value} {st0 : List Value} (hr : va_Run p l e room_1 s m #[Value.ref b] below meth c H [] cells slots (mC m1 - mC mm) (mS m1 - mS mm) (F0 m pc ls st0) rest (Qr G α w m1 A) (Ad α)) (hα : ∀ i, s.heap.size ≤ α i) (S : va_S (fun q => s.heap.size ≤ q) s.heap H [])
    (kk : ∀ H1 : Heap, MW G α m1 H1 → H.size ≤ H1.size → (∀ q : Nat, q < H.size → ¬ Ad α q → H1[q]? = H[q]?) → va_S (fun q => s.heap.size ≤ q) s.heap H1 [] → WL p l e s m below meth c b H1 (cells + (mC m1 - mC mm)) (slots + (mS m1 - mS mm)) Q ls (pc + 3) ((w.map (cv G α)).toList ++ rest)) : WL p l e s m below meth c b H cells slots Q ls pc st0 := by
  intro T hT X
  obtain ⟨v', st₀, t, T', L', h0, X', hL, e1, e2, hq, go⟩ := hr T hT X
  obtain ⟨q1, q2, q3, q4⟩ := hq
  cases q1
  rw [h0] at q3 q4
  have k := va_forget (s := s) (locs := [] ++ L') (fun q hq => by
    obtain ⟨i, ei⟩ := hL q hq
    rw [ei]
    exact hα i) (kk T'.heap (by rw [e1]; exact q2) (by rw [e1]; exact q3) (fun q z1 z2 => by rw [e1]; exact q4 q z1 z2) ⟨by rw [e1]; exact Nat.le_trans S.1 q3, fun q z1 z2 => by rw [e1, q4 q (Nat.lt_of_lt_of_le z1 S.1) (fun ⟨i, ei⟩ => z2 (ei ▸ hα i))]; exact S.2.1 q z1 z2, fun q hq => by cases hq⟩) T' rfl X'
  obtain ⟨t2, a1, b1⟩ := k
  exact ⟨t2, go t2 a1, b1⟩
theorem law_v (C : Lx G p s m meth c b L xs) (J : ∀ i j, α i = α j → i = j) (hα : ∀ i, s.heap.size ≤ α i) (Y : MW G α mm H) (S : va_S (fun q => s.heap.size ≤ q) s.heap H []) (hls : ls.size = 4) (hd : decode code pc = .ok (.invokevirtual idx, 3)) (hl : lkV R_law idx K ci) (hm : mOk K As.length) (hR : K.2.2.2.2.1 + 1 ≤ room_1.frames ∧ 8 + (K.2.2.1 + 11) + K.2.2.2.2.2 ≤ room_1.locals) (hs : (lg_sl (.ref a :: As)).length ≤ K.2.2.1) (hst : (rest.map fun v => v.category).sum ≤ 8) (ht : mT mm a = ci + 1) (h1 : Run K 0 (lv_args 0 (.ref a :: As)) [] mm w m1) (hc : cells + (mC m1 - mC mm) ≤ room_1.cells) (hz : slots + (mS m1 - mS mm) ≤ room_1.slots)
    (kk : ∀ H1 : Heap, MW G α m1 H1 → H.size ≤ H1.size → (∀ q : Nat, q < H.size → ¬ Ad α q → H1[q]? = H[q]?) → va_S (fun q => s.heap.size ≤ q) s.heap H1 [] → WL p l e s m below meth c b H1 (cells + (mC m1 - mC mm)) (slots + (mS m1 - mS mm)) Q ls (pc + 3) ((w.map (cv G α)).toList ++ rest)) :
    WL p l e s m below meth c b H cells slots Q ls pc ((As.map (cv G α)).reverse ++ .ref (α a) :: rest) := by
  obtain ⟨hci, ⟨T, N, hcl⟩, w1, w2, w3⟩ := hl
  obtain ⟨k1, k2, k3, k4, k5, k6⟩ := hm
  obtain ⟨⟨hx, hb, hr, hml, hown, -⟩, hts, hK⟩ := C
  have hM := h1.met (G := G) (α := α) l J k3 hs
  refine law_on (va_runV (As := As.map (cv G α)) (rest := rest) (b := α a) (C := K.1.cls) (Ts := g_tbl) (own := R_law) (nL := 4) ⟨hx, hb, hml, hown, hts⟩ hM (n := As.length)
    (cwV As.length hts ?_ rfl rfl rfl ⟨rfl, k4, k5, k6⟩ hR)
    ⟨Pcx.blind, rcv_of Y (hK α hα) hci hcl ht, fun U hU hW => ⟨rfl, by rw [hU]; exact Y, Kx.warm hW hU (S_ad S) (hK α hα)⟩⟩ rfl (by simp) hls rfl (lv_room hst) hd ⟨hc, hz⟩) hα S kk
  intro w hw
  unfold wsV at hw
  rcases List.mem_append.mp hw with hw | hw
  · simp only [List.mem_cons, List.not_mem_nil, or_false] at hw
    rcases hw with rfl | rfl | rfl | rfl
    · exact g_good _ w1
    · exact g_good _ w2
    · exact g_good _ w3
    · exact g_good _ k2
  · exact wsM_good k1 w hw
theorem law_i (C : Lx G p s m meth c b L xs) (J : ∀ i j, α i = α j → i = j) (hα : ∀ i, s.heap.size ≤ α i) (Y : MW G α mm H) (S : va_S (fun q => s.heap.size ≤ q) s.heap H []) (hls : ls.size = 4) (hd : decode code pc = .ok (.invokespecial idx, 3)) (hl : lkI R_law idx K) (hm : mOk K 0) (hR : K.2.2.2.2.1 + 1 ≤ room_1.frames ∧ 8 + (K.2.2.1 + 11) + K.2.2.2.2.2 ≤ room_1.locals) (hs : 1 ≤ K.2.2.1) (hst : (rest.map fun v => v.category).sum ≤ 8) (h1 : Run K 0 [(0, .ref a)] [] mm w m1) (hc : cells + (mC m1 - mC mm) ≤ room_1.cells) (hz : slots + (mS m1 - mS mm) ≤ room_1.slots)
    (kk : ∀ H1 : Heap, MW G α m1 H1 → H.size ≤ H1.size → (∀ q : Nat, q < H.size → ¬ Ad α q → H1[q]? = H[q]?) → va_S (fun q => s.heap.size ≤ q) s.heap H1 [] → WL p l e s m below meth c b H1 (cells + (mC m1 - mC mm)) (slots + (mS m1 - mS mm)) Q ls (pc + 3) ((w.map (cv G α)).toList ++ rest)) :
    WL p l e s m below meth c b H cells slots Q ls pc (.ref (α a) :: rest) := by
  obtain ⟨w0, w1, w2, w3⟩ := hl
  obtain ⟨k1, k2, k3, k4, k5, k6⟩ := hm
  obtain ⟨⟨hx, hb, hr, hml, hown, -⟩, hts, hK⟩ := C
  have h1 : Run K 0 (lv_args 0 (.ref a :: ([] : List Value))) [] mm w m1 := h1
  have hs : (lg_sl (.ref a :: ([] : List Value))).length ≤ K.2.2.1 := hs
  have hM := h1.met (G := G) (α := α) l J k3 hs
  have hw : wsM K = Cond.code K.1 K.2.1 K.2.2.1 none :: g_tbl := by unfold wsM; rw [w0]
  exact law_on (va_runI (As := []) (rest := rest) (b := α a) (Ts := g_tbl) (own := R_law) (nL := 4) ⟨hx, hb, hml, hown, hts⟩ hM (n := 0)
    ⟨callB_of 0 hts (wsM_good k1) hw rfl rfl (hts _ k2) (hts _ w2) ⟨k4, k5, k6⟩ hR, w1, hts _ w3⟩
    ⟨Pcx.blind, fun U hU hW => ⟨rfl, by rw [hU]; exact Y, Kx.warm hW hU (S_ad S) (hK α hα)⟩⟩ rfl rfl hls rfl (lv_room hst) hd ⟨hc, hz⟩) hα S kk
theorem law_new {N : Nat} (C : Lx G p s m meth c b L xs) (hα : ∀ i, s.heap.size ≤ α i) (Y : MW G α mm H) (S : va_S (fun q => s.heap.size ≤ q) s.heap H []) (hd : decode code pc = .ok (.new idx, 3)) (hl : lkN R_law idx ci N) (hcc : cells + 1 ≤ room_1.cells) (hz : slots + N ≤ room_1.slots)
    (kk : ∀ H1 : Heap, MW G α (nw mm (ci + 1) 0 N) H1 → H1.size = H.size + 1 → (∀ q : Nat, q < H.size → H1[q]? = H[q]?) → va_S (fun q => s.heap.size ≤ q) s.heap H1 [] → WL p l e s m below meth c b H1 (cells + 1) (slots + N) Q ls (pc + 3) (.ref (α (mC mm)) :: st)) :
    WL p l e s m below meth c b H cells slots Q ls pc st := by
  obtain ⟨hci, C0, T, hc, w1, w2, w3, hf⟩ := hl
  obtain ⟨⟨hx, hb, hr, hml, hown, -⟩, hts, hK⟩ := C
  have hKn := (hK α hα).1.1 ci _ hc
  have h0 : α (mC mm) = H.size := Y.2.1 0
  refine W.newcK hx hb hown (hts _ w1) (hts _ w2) (hts _ w3) rfl hd hcc hz hKn.2.1 rfl fun H1 kC hkC e1 z1 o1 => ?_
  have hE := kk H1 (Y.push z1 o1 (by
    rw [ent_obj (show mT (nw mm (ci + 1) 0 N) (mC mm) = ci + 1 from up1_eq) hci]
    refine ⟨_, hc, (u_born (q_ty ci) hts (q_ok ci _ hc).1 hKn hkC e1 (q_ok ci _ hc).2.1).to (fun k hk => ?_)⟩
    have hk : k < N := hk
    rw [q_sz_of hc]
    have hb := Y.2.2 (mC mm) (Nat.le_refl _)
    have q1 := (hb.2.1 (128 * ci + k)).1
    have q2 := (hb.2.1 (128 * ci + k)).2.1
    have q3 := (hb.2.1 (128 * ci + k)).2.2
    have e0 : vp_V ((List.range N).map (fun k => fv α (nw mm (ci + 1) 0 N) ci k (mC mm))) k = fv α mm ci k (mC mm) := by
      rw [nw_old hb]
      simp [vp_V, hk]
      rfl
    rw [e0]
    unfold fv
    rw [q1, q2, q3]
    have hkk := hf k hk
    generalize q_ty ci k = ty at hkk ⊢
    cases ty <;> first | rfl | (simp [fkd] at hkk))) z1 o1 ⟨by have := S.1; omega, fun q h1 h2 => (o1 q (Nat.lt_of_lt_of_le h1 S.1)).trans (S.2.1 q h1 h2), fun q hq => by cases hq⟩
  rw [h0] at hE
  exact hE
/-- the class's call -/
theorem law_P {pm pm1 rm : Mem} {st0 : List Value} (C : Lx G p s m meth c b L xs) (hls : ls.size = 4) (I : LJ G s pm rm H) (q : Run K 0 (lv_args 0 (.ref 0 :: As)) [] pm w pm1 ∧ PL pm1) (hd : decode code pc = .ok (.invokevirtual idx, 3)) (hl : lkV R_law idx K 11) (hm : mOk K As.length) (hR : K.2.2.2.2.1 + 1 ≤ room_1.frames ∧ 8 + (K.2.2.1 + 11) + K.2.2.2.2.2 ≤ room_1.locals) (hs : (lg_sl (.ref 0 :: As)).length ≤ K.2.2.1) (hc : cells + (mC pm1 - mC pm) ≤ room_1.cells) (hz : slots + (mS pm1 - mS pm) ≤ room_1.slots)
    (h0 : ∀ α, (As.map (cv G α)).reverse ++ [.ref s.heap.size] = st0) (hv : ∀ α, (w.map (cv G α)).toList = vs)
    (kk : ∀ H1 : Heap, LJ G s pm1 rm H1 → WL p l e s m below meth c b H1 (cells + (mC pm1 - mC pm)) (slots + (mS pm1 - mS pm)) Q ls (pc + 3) vs) :
    WL p l e s m below meth c b H cells slots Q ls pc st0 := by
  obtain ⟨Y, Z, hP, hz1, S⟩ := I
  have h1 : (As.map (cv G (aP s.heap.size))).reverse ++ Value.ref (aP s.heap.size 0) :: [] = st0 := by
    rw [show aP s.heap.size 0 = s.heap.size from if_pos (by decide)]
    exact h0 _
  rw [← h1]
  refine law_v (a := 0) (rest := []) C (aP_inj _) (aP_ge _) Y S hls hd hl hm hR hs (Nat.zero_le _) (PC_0 hP).1 q.1 hc hz fun H1 Y1 z1 k1 S1 => ?_
  rw [hv, List.append_nil]
  exact kk H1 ⟨Y1, Z.kept k1, q.2, Nat.le_trans hz1 z1, S1⟩
/-- the reference's call -/
theorem law_R {pm rm rm1 : Mem} {st0 : List Value} (C : Lx G p s m meth c b L xs) (hls : ls.size = 4) (I : LJ G s pm rm H) (q : Run K 0 (lv_args 0 (.ref 0 :: As)) [] rm w rm1 ∧ RL rm1) (hd : decode code pc = .ok (.invokevirtual idx, 3)) (hl : lkV R_law idx K 12) (hm : mOk K As.length) (hR : K.2.2.2.2.1 + 1 ≤ room_1.frames ∧ 8 + (K.2.2.1 + 11) + K.2.2.2.2.2 ≤ room_1.locals) (hs : (lg_sl (.ref 0 :: As)).length ≤ K.2.2.1) (hst : (rest.map fun v => v.category).sum ≤ 8) (hc : cells ≤ room_1.cells) (hz : slots ≤ room_1.slots)
    (h0 : ∀ α, (As.map (cv G α)).reverse ++ .ref (s.heap.size + 51) :: rest = st0) (hv : ∀ α, (w.map (cv G α)).toList ++ rest = vs)
    (kk : ∀ H1 : Heap, LJ G s pm rm1 H1 → WL p l e s m below meth c b H1 cells slots Q ls (pc + 3) vs) :
    WL p l e s m below meth c b H cells slots Q ls pc st0 := by
  obtain ⟨Y, Z, hP, hz1, S⟩ := I
  have h1 : (As.map (cv G (aQ s.heap.size H.size))).reverse ++ Value.ref (aQ s.heap.size H.size 0) :: rest = st0 := by
    rw [show aQ s.heap.size H.size 0 = s.heap.size + 51 from if_pos (by decide)]
    exact h0 _
  rw [← h1]
  have e1 : mC rm1 - mC rm = 0 := by rw [q.2.1.1, Z.1.1.1]
  have e2 : mS rm1 - mS rm = 0 := by rw [q.2.1.2, Z.1.1.2]
  refine law_v (a := 0) (rest := rest) C (aQ_inj hz1) (aQ_ge hz1) Z.to S hls hd hl hm hR hs hst (RC_0 Z.1).1 q.1 (by rw [e1]; exact hc) (by rw [e2]; exact hz) fun H1 Y1 z1 k1 S1 => ?_
  rw [hv, e1, e2]
  obtain ⟨Z1, z2⟩ := QW.of q.2 Y1
  exact kk H1 ⟨PW.kept Y z2 k1, Z1, hP, by omega, S1⟩
theorem icn : ∀ k, k < 8 → Int32.ofInt ((k : Nat) : Int) = nj k ∧ (Int8.ofInt ((k : Nat) : Int)).toInt32 = nj k := by decide +kernel
theorem law_ix {i k : Nat} (hi : 8 * i + 8 ≤ L) (hL : L ≤ 4096) (hk : k < 8) : vp_in (nj (8 * i + k)) L ∧ (nj (8 * i + k)).toNatClampNeg = 8 * i + k := by
  have h1 : (nj (8 * i + k)).toNatClampNeg = 8 * i + k := ix_nj (by omega)
  refine ⟨fun h => ?_, h1⟩
  rcases h with h | h
  · exact absurd h (Int32.not_lt.mpr (nj_0le (by omega)))
  · rw [h1] at h
    omega
/-- a word of the script -/
theorem law_arg {i q1 q2 : Nat} (k : Nat) (C : Lx G p s m meth c b L xs) (hL : L ≤ 4096) (S : va_S (fun q => s.heap.size ≤ q) s.heap H []) (hl : lv_has ls 4 [(3, .int (nj (8 * i))), (2, .ref q2), (1, .ref q1), (0, .ref b)]) (hi : 8 * i + 8 ≤ L) (hk : k < 8) (d : decode code pc = .ok (.aload_n 0, 1) ∧ decode code (pc + 1) = .ok (.iload_n 3, 1) ∧ decode code (pc + 1 + 1) = .ok (.iconst ((k : Nat) : Int), 1) ∧ decode code (pc + 1 + 1 + 1) = .ok (.iadd, 1) ∧ decode code (pc + 1 + 1 + 1 + 1) = .ok (.iaload, 1))
    (kk : WL p l e s m below meth c b H cells slots Q ls (pc + 5) (.int (xs (8 * i + k)) :: st)) : WL p l e s m below meth c b H cells slots Q ls pc st := by
  obtain ⟨⟨hx, hb, hr, hml, hown, -, hX, hbl, -⟩, hts, hK⟩ := C
  obtain ⟨v1, v2⟩ := law_ix hi hL hk
  refine lv_aload_n hx hb d.1 rfl (lv_at hl 3 rfl) ?_
  refine lv_iload_n hx hb d.2.1 rfl (lv_at hl 0 rfl) ?_
  refine lv_iconst hx hb d.2.2.1 (icn k hk).1 ?_
  refine lv_iadd hx hb d.2.2.2.1 ?_
  rw [nj_add]
  refine va_sld hx hb hX hbl (Nat.not_le.mpr hbl) S v1 d.2.2.2.2 ?_
  rw [v2]
  exact kk
theorem law_argB {i q1 q2 : Nat} (k : Nat) (C : Lx G p s m meth c b L xs) (hL : L ≤ 4096) (S : va_S (fun q => s.heap.size ≤ q) s.heap H []) (hl : lv_has ls 4 [(3, .int (nj (8 * i))), (2, .ref q2), (1, .ref q1), (0, .ref b)]) (hi : 8 * i + 8 ≤ L) (hk : k < 8) (d : decode code pc = .ok (.aload_n 0, 1) ∧ decode code (pc + 1) = .ok (.iload_n 3, 1) ∧ decode code (pc + 1 + 1) = .ok (.bipush ((k : Nat) : Int), 2) ∧ decode code (pc + 1 + 1 + 2) = .ok (.iadd, 1) ∧ decode code (pc + 1 + 1 + 2 + 1) = .ok (.iaload, 1))
    (kk : WL p l e s m below meth c b H cells slots Q ls (pc + 6) (.int (xs (8 * i + k)) :: st)) : WL p l e s m below meth c b H cells slots Q ls pc st := by
  obtain ⟨⟨hx, hb, hr, hml, hown, -, hX, hbl, -⟩, hts, hK⟩ := C
  obtain ⟨v1, v2⟩ := law_ix hi hL hk
  refine lv_aload_n hx hb d.1 rfl (lv_at hl 3 rfl) ?_
  refine lv_iload_n hx hb d.2.1 rfl (lv_at hl 0 rfl) ?_
  refine lv_bipush hx hb d.2.2.1 (icn k hk).2 ?_
  refine lv_iadd hx hb d.2.2.2.1 ?_
  rw [nj_add]
  refine va_sld hx hb hX hbl (Nat.not_le.mpr hbl) S v1 d.2.2.2.2 ?_
  rw [v2]
  exact kk
/-- an int as a boolean -/
def bz (x : Int32) : Int32 := if x = 0 then 0 else 1
theorem bz_01 (x : Int32) : bz x = 0 ∨ bz x = 1 := by
  unfold bz
  split
  · exact Or.inl rfl
  · exact Or.inr rfl
theorem law_bool {x : Int32} (C : Lx G p s m meth c b L xs) (d : decode code pc = .ok (.ifCond .eq 7, 3) ∧ decode code (pc + 3) = .ok (.iconst 1, 1) ∧ decode code (pc + 3 + 1) = .ok (.goto 4, 3) ∧ decode code (pc + 7) = .ok (.iconst 0, 1))
    (kk : WL p l e s m below meth c b H cells slots Q ls (pc + 8) (.int (bz x) :: st)) : WL p l e s m below meth c b H cells slots Q ls pc (.int x :: st) := by
  obtain ⟨⟨hx, hb, -⟩, -⟩ := C
  refine lv_if_eq (tgt := pc + 7) hx hb d.1 (by omega) (fun z => ?_) (fun z => ?_)
  · refine lv_iconst (v := 0) hx hb d.2.2.2 (by decide) ?_
    unfold bz at kk
    rw [if_pos z] at kk
    exact kk
  · refine lv_iconst (v := 1) hx hb d.2.1 (by decide) ?_
    refine lv_goto (tgt := pc + 8) hx hb d.2.2.1 (by omega) ?_
    unfold bz at kk
    rw [if_neg z] at kk
    exact kk
theorem lg_self (x : Int64) : lg_cmp x x = 0 := by
  have h : ¬ x > x := by
    rw [gt_iff_lt, Int64.lt_iff_toInt_lt]
    omega
  unfold lg_cmp
  rw [if_neg h, if_pos rfl]
end Law
