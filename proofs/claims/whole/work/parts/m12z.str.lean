/-! String constants: their own methods, and the learning of words -/
def k_S_coder : MI := (⟨"java/lang/String", "coder", "()B"⟩, prog_18_method_152_code, 1, some (.byte), 0, 0)
def k_S_isL : MI := (⟨"java/lang/String", "isLatin1", "()Z"⟩, prog_18_method_154_code, 1, some (.boolean), 0, 0)
def k_S_len : MI := (⟨"java/lang/String", "length", "()I"⟩, prog_18_method_54_code, 1, some (.int), 1, 20)
def k_J_ckI : MI := (⟨"jdk/internal/util/Preconditions", "checkIndex", "(IILjava/util/function/BiFunction;)I"⟩, prog_23_method_11_code, 3, some (.int), 0, 0)
def k_S_ck : MI := (⟨"java/lang/String", "checkIndex", "(II)V"⟩, prog_18_method_155_code, 2, none, 1, 22)
def k_L_chr : MI := (⟨"java/lang/StringLatin1", "charAt", "([BI)C"⟩, prog_19_method_2_code, 2, some (.char), 2, 43)
def k_S_chr : MI := (⟨"java/lang/String", "charAt", "(I)C"⟩, prog_18_method_56_code, 2, some (.char), 3, 64)
theorem mo_S_coder : mOk k_S_coder 0 := ⟨(gb_1 (i := 170) rfl rfl), (gb_1 (i := 7) rfl rfl), by decide, by decide, by decide, by decide +kernel⟩
theorem mo_S_isL : mOk k_S_isL 0 := ⟨(gb_1 (i := 180) rfl rfl), (gb_1 (i := 7) rfl rfl), by decide, by decide, by decide, by decide +kernel⟩
theorem mo_S_len : mOk k_S_len 0 := ⟨(gb_1 (i := 166) rfl rfl), (gb_1 (i := 7) rfl rfl), by decide, by decide, by decide, by decide +kernel⟩
theorem mo_J_ckI : mOk k_J_ckI 3 := ⟨(gb_1 (i := 191) rfl rfl), (gb_1 (i := 9) rfl rfl), by decide, by decide, by decide, by decide +kernel⟩
theorem mo_S_ck : mOk k_S_ck 2 := ⟨(gb_1 (i := 186) rfl rfl), (gb_1 (i := 7) rfl rfl), by decide, by decide, by decide, by decide +kernel⟩
theorem mo_L_chr : mOk k_L_chr 2 := ⟨(gb_1 (i := 183) rfl rfl), (gb_1 (i := 8) rfl rfl), by decide, by decide, by decide, by decide +kernel⟩
theorem mo_S_chr : mOk k_S_chr 1 := ⟨(gb_1 (i := 176) rfl rfl), (gb_1 (i := 7) rfl rfl), by decide, by decide, by decide, by decide +kernel⟩
section Str
variable {M K : MI} {pc : Nat} {ls : List (Nat × Value)} {st As : List Value} {m m1 m' : Mem} {v w : Option Value} {idx j : Nat}
theorem Run.upS {pc' : Nat} {st' : List Value} (h : Run M pc' ls st' m v m')
    (f : ∀ (G : GG) (α : Nat → Nat) (p : Program) (l : Launch) (e : Env) (R : Room) (s : State) (mid : MethodId) (args : Array Value) (below : List Frame) (meth : Method) (c : Code) (H : Heap) (locs : List Loc) (cells slots : Nat) (lsA : Array Slot) (Q : State → Prop), Cx G α M p R s mid args meth c → va_S (Ad α) s.heap H locs → W p l e R s mid args below meth c H locs cells slots Q (F0 mid pc' lsA (st'.map (cv G α))) → W p l e R s mid args below meth c H locs cells slots Q (F0 mid pc lsA (st.map (cv G α)))) : Run M pc ls st m v m' :=
  ⟨h.1, h.2.1, fun G α p l e R s mid args below meth c H locs cells slots lsA kc ks B => f G α p l e R s mid args below meth c H locs cells slots lsA _ B.2.1 B.2.2.2.2.1 (h.2.2 G α p l e R s mid args below meth c H locs cells slots lsA kc ks B)⟩
theorem r_ldcS {tx : String} (hd : decode M.2.1 pc = .ok (.ldc idx, 2)) (hj : s_tbl[j]? = some (M.1.cls, idx, tx)) (h : Run M (pc + 2) ls (.retAddr j :: st) m v m') : Run M pc ls st m v m' :=
  h.upS fun _ _ _ _ _ _ _ _ _ _ _ _ _ _ _ _ _ _ C _ q => va_ldcS C.1 C.2.1 C.2.2.2.2.2.2.1 (C.2.2.2.2.2.2.2.2.1.2.2.2.1 _ _ hj) hd q
theorem r_sval (hd : decode M.2.1 pc = .ok (.getfield idx, 3)) (hw : Cond.fieldLink M.1.cls idx "java/lang/String" "value" "[B" ∈ g_tbl) (hj : j < 4) (h : Run M (pc + 3) ls (.retAddr (j + 4) :: st) m v m') : Run M pc ls (.retAddr j :: st) m v m' :=
  h.upS fun G α _ _ _ _ _ _ _ _ _ _ _ _ _ _ _ _ C S q => by
    have hK := C.2.2.2.2.2.2.2.2.1
    rw [List.map_cons, show cv G α (.retAddr (j + 4)) = .ref (G.2.2.2 j) from congrArg Value.ref (hK.2.2.2.2.2.1 j hj)] at q
    exact vk_getf C.1 C.2.1 (hK.2.2.2.2.1.1 j hj).2.2.1 S C.2.2.2.2.2.2.1 (C.2.2.2.2.2.2.2.1 _ hw) (fun _ h => h) hd q
theorem r_scod (hd : decode M.2.1 pc = .ok (.getfield idx, 3)) (hw : Cond.fieldLink M.1.cls idx "java/lang/String" "coder" "B" ∈ g_tbl) (hj : j < 4) (h : Run M (pc + 3) ls (.int 0 :: st) m v m') : Run M pc ls (.retAddr j :: st) m v m' :=
  h.upS fun G α _ _ _ _ _ _ _ _ _ _ _ _ _ _ _ _ C S q => vk_getf C.1 C.2.1 (C.2.2.2.2.2.2.2.2.1.2.2.2.2.1.1 j hj).2.1 S C.2.2.2.2.2.2.1 (C.2.2.2.2.2.2.2.1 _ hw) (fun _ h => h) hd q
theorem r_slen (hd : decode M.2.1 pc = .ok (.arraylength, 1)) (hj : j < 4) (h : Run M (pc + 1) ls (.int (Int32.ofNat (s_len.getD j 0)) :: st) m v m') : Run M pc ls (.retAddr (j + 4) :: st) m v m' :=
  h.upS fun G α _ _ _ _ _ _ _ _ _ _ _ _ _ _ _ _ C S q => by
    have hK := C.2.2.2.2.2.2.2.2.1
    rw [List.map_cons, show cv G α (.retAddr (j + 4)) = .ref (G.2.2.2 j) from congrArg Value.ref (hK.2.2.2.2.2.1 j hj)]
    exact va_tlen C.1 C.2.1 (hK.2.2.2.2.1.1 j hj).2.2.2 S rfl hd q
theorem r_sbyt {i : Int32} (hd : decode M.2.1 pc = .ok (.baload, 1)) (hj : j < 4) (hi : inb i (s_len.getD j 0) = true) (h : Run M (pc + 1) ls (.int ((s_byt.getD j []).getD (ix i) 0) :: st) m v m') : Run M pc ls (.int i :: .retAddr (j + 4) :: st) m v m' :=
  h.upS fun G α _ _ _ _ _ _ _ _ _ _ _ _ _ _ _ _ C S q => by
    have hK := C.2.2.2.2.2.2.2.2.1
    rw [List.map_cons, List.map_cons, show cv G α (.retAddr (j + 4)) = .ref (G.2.2.2 j) from congrArg Value.ref (hK.2.2.2.2.2.1 j hj)]
    exact va_tb C.1 C.2.1 (hK.2.2.2.2.1.1 j hj).2.2.2 S (inb_vp hi) rfl hd q
theorem r_sst (hd : decode M.2.1 pc = .ok (.getstatic idx, 3)) (hw : Cond.fieldLink M.1.cls idx "java/lang/String" "COMPACT_STRINGS" "Z" ∈ g_tbl) (h : Run M (pc + 3) ls (.int 1 :: st) m v m') : Run M pc ls st m v m' :=
  h.upS fun G α _ _ _ _ _ _ _ _ _ _ _ _ _ _ _ _ C S q => va_gets C.1 C.2.1 C.2.2.2.2.2.2.2.2.1.2.2.2.2.2.2.1 S C.2.2.2.2.2.2.1 (C.2.2.2.2.2.2.2.1 _ hw) (fun _ h => h) hd q
theorem r_sfm (hd : decode M.2.1 pc = .ok (.getstatic idx, 3)) (hw : Cond.fieldLink M.1.cls idx "jdk/internal/util/Preconditions" "SIOOBE_FORMATTER" "Ljava/util/function/BiFunction;" ∈ g_tbl) (h1 : Run M (pc + 3) ls (.retAddr 8 :: st) m v m') (h2 : Run M (pc + 3) ls (.null :: st) m v m') : Run M pc ls st m v m' := by
  refine ⟨h1.1, h1.2.1, fun G α p l e R s mid args below meth c H locs cells slots lsA kc ks B => ?_⟩
  have C := B.2.1
  have S := B.2.2.2.2.1
  have hz := C.2.2.2.2.2.2.2.2.1.2.2.2.2.2.2.2
  unfold fmO at hz
  by_cases q : G.2.2.1 9 = 1
  · rw [if_pos q] at hz
    exact va_gets C.1 C.2.1 hz S C.2.2.2.2.2.2.1 (C.2.2.2.2.2.2.2.1 _ hw) (fun _ h => h) hd (h2.2.2 G α p l e R s mid args below meth c H locs cells slots lsA kc ks B)
  · rw [if_neg q] at hz
    exact va_gets C.1 C.2.1 hz S C.2.2.2.2.2.2.1 (C.2.2.2.2.2.2.2.1 _ hw) (fun _ h => h) hd (h1.2.2 G α p l e R s mid args below meth c H locs cells slots lsA kc ks B)
theorem r_i2c {x : Int32} (hd : decode M.2.1 pc = .ok (.i2c, 1)) (h : Run M (pc + 1) ls (.int ((x.toUInt32 % 65536).toInt32) :: st) m v m') : Run M pc ls (.int x :: st) m v m' :=
  h.upS fun _ _ _ _ _ _ _ _ _ _ _ _ _ _ _ _ _ _ C _ q => lv_i2c C.1 C.2.1 hd rfl q
theorem r_nret {ty : FieldType} {x : Int32} (hn : narrow ty (.int x) = .int x) (hr : M.2.2.2.1 = some ty) (hd : decode M.2.1 pc = .ok (.ireturn, 1)) : Run M pc ls [.int x] m (some (.int x)) m := by
  refine ⟨Nat.le_refl _, Nat.le_refl _, fun G α p l e R s mid args below meth c H locs cells slots lsA kc ks B => ?_⟩
  obtain ⟨J, C, L, Y, S, e1, f1, r1, r2⟩ := B
  obtain rfl : cells = kc := by omega
  obtain rfl : slots = ks := by omega
  have hlk : meth.locks = false := C.2.2.2.2.1
  exact W.zret C.1 C.2.1 (C.2.2.2.1.trans hr) hn (Qr.of (v := some (.int x)) Y S args) (fun q hq => S.2.2 q hq) hd hlk
theorem r_callVs (hd : decode M.2.1 pc = .ok (.invokevirtual idx, 3)) (hc : K.1.cls = "java/lang/String") (hl : Cond.methodLink M.1.cls idx K.1 ∈ g_tbl ∧ Cond.instanceMethod K.1 ∈ g_tbl ∧ Cond.selects K.1.cls K.1 K.1 ∈ g_tbl) (hm : mOk K As.length) (hR : rOk M K) (hs : (lg_sl (.retAddr j :: As)).length ≤ K.2.2.1) (hst : (st.map fun v => v.category).sum ≤ 8) (hj : j < 4)
    (h1 : Run K 0 (lv_args 0 (.retAddr j :: As)) [] m w m1) (h2 : Run M (pc + 3) ls (w.toList ++ st) m1 v m') : Run M pc ls (As.reverse ++ .retAddr j :: st) m v m' := by
  refine ⟨Nat.le_trans h1.1 h2.1, Nat.le_trans h1.2.1 h2.2.1, fun G α p l e R s mid args below meth c H locs cells slots lsA kc ks B => ?_⟩
  obtain ⟨w1, w2, w3⟩ := hl
  obtain ⟨k1, k2, k3, k4, k5, k6⟩ := hm
  have C := B.2.1
  have g1 := h1.1; have g2 := h1.2.1; have g3 := h2.1; have g4 := h2.2.1
  have S := B.2.2.2.2.1
  have hM := h1.met (G := G) (α := α) l B.1 k3 hs
  have hrcv : ∃ cellB : Cell, H[G.2.2.1 j]? = some cellB ∧ cellB.vm.isStatics = false ∧ s.vm.findClass K.1.cls = some cellB.cls := by
    rw [hc]
    exact vk_recv C.2.2.2.2.2.2.2.2.1.2.2.2.2.1 hj S
  refine call_on (va_runV (As := As.map (cv G α)) (rest := st.map (cv G α)) (b := G.2.2.1 j) (C := K.1.cls) (Ts := g_tbl) (own := M.1.cls) (nL := M.2.2.1) ⟨C.1, C.2.1, C.2.2.1, C.2.2.2.2.2.2.1, C.2.2.2.2.2.2.2.1⟩ hM (n := As.length)
    (cwV As.length C.2.2.2.2.2.2.2.1 ?_ rfl rfl rfl ⟨rfl, k4, k5, k6⟩ ⟨Nat.le_trans hR.1 C.2.2.2.2.2.2.2.2.2.1, Nat.le_trans hR.2 C.2.2.2.2.2.2.2.2.2.2⟩)
    ⟨Pcx.blind, hrcv, fun U hU hW => ⟨rfl, by rw [hU]; exact B.2.2.2.1, Kx.warm hW hU S C.2.2.2.2.2.2.2.2.1⟩⟩ rfl (by simp) B.2.2.1.1 (by simp [cv]) (lv_room (by rw [cat_map]; exact hst)) hd ?_) g1 g2 B h2
  · intro w hw
    unfold wsV at hw
    rcases List.mem_append.mp hw with hw | hw
    · simp only [List.mem_cons, List.not_mem_nil, or_false] at hw
      rcases hw with rfl | rfl | rfl | rfl
      · exact g_good _ w1
      · exact g_good _ w2
      · exact g_good _ w3
      · exact g_good _ k2
    · exact wsM_good k1 w hw
  · obtain ⟨-, -, -, -, -, c1, c2, r1, r2⟩ := B
    exact ⟨by omega, by omega⟩
theorem q_callVs {lsK : List (Nat × Value)} {st2 : List Value} (hla : lv_args 0 (.retAddr j :: As) = lsK) (hw : w.toList ++ st = st2) (hd : decode M.2.1 pc = .ok (.invokevirtual idx, 3)) (hc : K.1.cls = "java/lang/String") (hl : Cond.methodLink M.1.cls idx K.1 ∈ g_tbl ∧ Cond.instanceMethod K.1 ∈ g_tbl ∧ Cond.selects K.1.cls K.1 K.1 ∈ g_tbl) (hm : mOk K As.length) (hR : rOk M K) (hs : (lg_sl (.retAddr j :: As)).length ≤ K.2.2.1) (hst : (st.map fun v => v.category).sum ≤ 8) (hj : j < 4)
    (h1 : Run K 0 lsK [] m w m1) (h2 : Run M (pc + 3) ls st2 m1 v m') : Run M pc ls (As.reverse ++ .retAddr j :: st) m v m' := by
  subst hla
  subst hw
  exact r_callVs hd hc hl hm hR hs hst hj h1 h2
end Str
section Sm
variable {m : Mem} {j : Nat}
theorem S_coder_run (hj : j < 4) : Run k_S_coder 0 [(0, .retAddr j)] [] m (some (.int 0)) m := by
  refine r_sst (pc := 0) (by decide +kernel : decode k_S_coder.2.1 0 = .ok (.getstatic 38, 3)) (gb_1 (i := 171) rfl rfl) ?_
  refine (r_if_eq_f (pc := 3) 13 (by decide +kernel : decode k_S_coder.2.1 3 = .ok (.ifCond .eq (10), 3)) (by decide) (by decide)) ?_
  refine (r_aload_s (pc := 6) (k := 0) (by decide +kernel : decode k_S_coder.2.1 6 = .ok (.aload_n 0, 1)) rfl rfl) ?_
  refine r_scod (pc := 7) (by decide +kernel : decode k_S_coder.2.1 7 = .ok (.getfield 15, 3)) (gb_10 (i := 146) rfl rfl) hj ?_
  refine (r_goto (pc := 10) (tgt := 14) (by decide +kernel : decode k_S_coder.2.1 10 = .ok (.goto (4), 3)) (by decide)) ?_
  exact r_nret (pc := 14) (ty := .byte) (by decide +kernel) rfl (by decide +kernel : decode k_S_coder.2.1 14 = .ok (.ireturn, 1))
theorem S_isL_run (hj : j < 4) : Run k_S_isL 0 [(0, .retAddr j)] [] m (some (.int 1)) m := by
  refine r_sst (pc := 0) (by decide +kernel : decode k_S_isL.2.1 0 = .ok (.getstatic 38, 3)) (gb_1 (i := 171) rfl rfl) ?_
  refine (r_if_eq_f (pc := 3) 17 (by decide +kernel : decode k_S_isL.2.1 3 = .ok (.ifCond .eq (14), 3)) (by decide) (by decide)) ?_
  refine (r_aload_s (pc := 6) (k := 0) (by decide +kernel : decode k_S_isL.2.1 6 = .ok (.aload_n 0, 1)) rfl rfl) ?_
  refine r_scod (pc := 7) (by decide +kernel : decode k_S_isL.2.1 7 = .ok (.getfield 15, 3)) (gb_10 (i := 146) rfl rfl) hj ?_
  refine (r_if_ne_f (pc := 10) 17 (by decide +kernel : decode k_S_isL.2.1 10 = .ok (.ifCond .ne (7), 3)) (by decide) rfl) ?_
  refine (r_iconst (pc := 13) (by decide +kernel : decode k_S_isL.2.1 13 = .ok (.iconst 1, 1)) (by decide : _ = (1 : Int32))) ?_
  refine (r_goto (pc := 14) (tgt := 18) (by decide +kernel : decode k_S_isL.2.1 14 = .ok (.goto (4), 3)) (by decide)) ?_
  exact r_nret (pc := 18) (ty := .boolean) (by decide +kernel) rfl (by decide +kernel : decode k_S_isL.2.1 18 = .ok (.ireturn, 1))
theorem s_shr : ∀ j, j < 4 → (Int32.ofNat (s_len.getD j 0)) >>> ((0 : Int32) &&& 31) = Int32.ofNat (s_len.getD j 0) := by decide +kernel
theorem S_len_run (hj : j < 4) : Run k_S_len 0 [(0, .retAddr j)] [] m (some (.int (Int32.ofNat (s_len.getD j 0)))) m := by
  refine (r_aload_s (pc := 0) (k := 0) (by decide +kernel : decode k_S_len.2.1 0 = .ok (.aload_n 0, 1)) rfl rfl) ?_
  refine r_sval (pc := 1) (by decide +kernel : decode k_S_len.2.1 1 = .ok (.getfield 9, 3)) (gb_10 (i := 145) rfl rfl) hj ?_
  refine r_slen (pc := 4) (by decide +kernel : decode k_S_len.2.1 4 = .ok (.arraylength, 1)) hj ?_
  refine (r_aload_s (pc := 5) (k := 0) (by decide +kernel : decode k_S_len.2.1 5 = .ok (.aload_n 0, 1)) rfl rfl) ?_
  refine (q_callVs (pc := 6) (As := []) (st := [.int (Int32.ofNat (s_len.getD j 0))]) (st2 := [.int 0, .int (Int32.ofNat (s_len.getD j 0))]) rfl rfl (by decide +kernel : decode k_S_len.2.1 6 = .ok (.invokevirtual 335, 3)) rfl ⟨(gb_1 (i := 167) rfl rfl), (gb_1 (i := 168) rfl rfl), (gb_1 (i := 169) rfl rfl)⟩ mo_S_coder ⟨Nat.le_of_ble_eq_true rfl, Nat.le_of_ble_eq_true rfl⟩ (Nat.le_of_ble_eq_true rfl) (Nat.le_of_ble_eq_true rfl) hj (S_coder_run hj)) ?_
  refine (r_ishr (pc := 9) (by decide +kernel : decode k_S_len.2.1 9 = .ok (.ishr, 1))) ?_
  rw [s_shr j hj]
  exact r_iret (pc := 10) rfl (by decide +kernel : decode k_S_len.2.1 10 = .ok (.ireturn, 1))
theorem J_ckI_run {i n : Int32} {x : Value} (h0 : ¬ i < 0) (h1 : i < n) : Run k_J_ckI 0 [(0, .int i), (1, .int n), (2, x)] [] m (some (.int i)) m := by
  refine (r_iload_n (pc := 0) (k := 0) (by decide +kernel : decode k_J_ckI.2.1 0 = .ok (.iload_n 0, 1)) rfl rfl) ?_
  refine (r_if_lt_f (pc := 1) 9 (by decide +kernel : decode k_J_ckI.2.1 1 = .ok (.ifCond .lt (8), 3)) (by decide) h0) ?_
  refine (r_iload_n (pc := 4) (k := 0) (by decide +kernel : decode k_J_ckI.2.1 4 = .ok (.iload_n 0, 1)) rfl rfl) ?_
  refine (r_iload_n (pc := 5) (k := 1) (by decide +kernel : decode k_J_ckI.2.1 5 = .ok (.iload_n 1, 1)) rfl rfl) ?_
  refine (r_icmp_lt_t (pc := 6) (tgt := 16) (by decide +kernel : decode k_J_ckI.2.1 6 = .ok (.if_icmp .lt (10), 3)) (by decide) h1) ?_
  refine (r_iload_n (pc := 16) (k := 0) (by decide +kernel : decode k_J_ckI.2.1 16 = .ok (.iload_n 0, 1)) rfl rfl) ?_
  exact r_iret (pc := 17) rfl (by decide +kernel : decode k_J_ckI.2.1 17 = .ok (.ireturn, 1))
theorem S_ck_run {i n : Int32} (h0 : ¬ i < 0) (h1 : i < n) : Run k_S_ck 0 [(0, .int i), (1, .int n)] [] m none m := by
  refine (r_iload_n (pc := 0) (k := 0) (by decide +kernel : decode k_S_ck.2.1 0 = .ok (.iload_n 0, 1)) rfl rfl) ?_
  refine (r_iload_n (pc := 1) (k := 1) (by decide +kernel : decode k_S_ck.2.1 1 = .ok (.iload_n 1, 1)) rfl rfl) ?_
  refine r_sfm (pc := 2) (by decide +kernel : decode k_S_ck.2.1 2 = .ok (.getstatic 1053, 3)) (gb_1 (i := 187) rfl rfl) ?_ ?_
  · refine (q_callS (pc := 5) (As := [.int i, .int n, .retAddr 8]) (st := []) (st2 := [.int i]) rfl rfl (by decide +kernel : decode k_S_ck.2.1 5 = .ok (.invokestatic 1059, 3)) ⟨(gb_1 (i := 189) rfl rfl), (gb_1 (i := 190) rfl rfl)⟩ mo_J_ckI ⟨Nat.le_of_ble_eq_true rfl, Nat.le_of_ble_eq_true rfl⟩ (Nat.le_of_ble_eq_true rfl) (Nat.le_of_ble_eq_true rfl) (J_ckI_run h0 h1)) ?_
    refine (r_pop (pc := 8) (by decide +kernel : decode k_S_ck.2.1 8 = .ok (.pop, 1)) rfl) ?_
    exact r_vret (pc := 9) rfl (by decide +kernel : decode k_S_ck.2.1 9 = .ok (.return_, 1))
  · refine (q_callS (pc := 5) (As := [.int i, .int n, .null]) (st := []) (st2 := [.int i]) rfl rfl (by decide +kernel : decode k_S_ck.2.1 5 = .ok (.invokestatic 1059, 3)) ⟨(gb_1 (i := 189) rfl rfl), (gb_1 (i := 190) rfl rfl)⟩ mo_J_ckI ⟨Nat.le_of_ble_eq_true rfl, Nat.le_of_ble_eq_true rfl⟩ (Nat.le_of_ble_eq_true rfl) (Nat.le_of_ble_eq_true rfl) (J_ckI_run h0 h1)) ?_
    refine (r_pop (pc := 8) (by decide +kernel : decode k_S_ck.2.1 8 = .ok (.pop, 1)) rfl) ?_
    exact r_vret (pc := 9) rfl (by decide +kernel : decode k_S_ck.2.1 9 = .ok (.return_, 1))
theorem s_chn : ∀ j, j < 4 → ∀ k, k < s_len.getD j 0 → narrow .char (.int (s_ch j k)) = .int (s_ch j k) := by decide +kernel
theorem s_l64 : ∀ j, j < 4 → s_len.getD j 0 ≤ 65 := by decide
theorem L_chr_run (hj : j < 4) {i : Int32} (hi : inb i (s_len.getD j 0) = true) : Run k_L_chr 0 [(0, .retAddr (j + 4)), (1, .int i)] [] m (some (.int (s_ch j (ix i)))) m := by
  have hl := s_l64 j hj
  obtain ⟨hi0, hi1⟩ := inb_of hi
  have h0 : ¬ i < 0 := Int32.not_lt.mpr hi0
  have h1 : i < Int32.ofNat (s_len.getD j 0) := by
    obtain ⟨k, hk, rfl⟩ := nj_of hi0
    rw [ix_nj hk] at hi1
    show nj k < nj _
    rw [nj_lt (by omega) (by omega)]
    exact hi1
  refine (r_iload_n (pc := 0) (k := 1) (by decide +kernel : decode k_L_chr.2.1 0 = .ok (.iload_n 1, 1)) rfl rfl) ?_
  refine (r_aload_s (pc := 1) (k := 0) (by decide +kernel : decode k_L_chr.2.1 1 = .ok (.aload_n 0, 1)) rfl rfl) ?_
  refine r_slen (pc := 2) (by decide +kernel : decode k_L_chr.2.1 2 = .ok (.arraylength, 1)) hj ?_
  refine (q_callS (pc := 3) (As := [.int i, .int (Int32.ofNat (s_len.getD j 0))]) (st := []) (st2 := []) rfl rfl (by decide +kernel : decode k_L_chr.2.1 3 = .ok (.invokestatic 9, 3)) ⟨(gb_1 (i := 184) rfl rfl), (gb_1 (i := 185) rfl rfl)⟩ mo_S_ck ⟨Nat.le_of_ble_eq_true rfl, Nat.le_of_ble_eq_true rfl⟩ (Nat.le_of_ble_eq_true rfl) (Nat.le_of_ble_eq_true rfl) (S_ck_run h0 h1)) ?_
  refine (r_aload_s (pc := 6) (k := 0) (by decide +kernel : decode k_L_chr.2.1 6 = .ok (.aload_n 0, 1)) rfl rfl) ?_
  refine (r_iload_n (pc := 7) (k := 1) (by decide +kernel : decode k_L_chr.2.1 7 = .ok (.iload_n 1, 1)) rfl rfl) ?_
  refine r_sbyt (pc := 8) (by decide +kernel : decode k_L_chr.2.1 8 = .ok (.baload, 1)) hj hi ?_
  refine (r_sipush (pc := 9) (by decide +kernel : decode k_L_chr.2.1 9 = .ok (.sipush (255), 3)) (by decide : _ = (255 : Int32))) ?_
  refine (r_iand (pc := 12) (by decide +kernel : decode k_L_chr.2.1 12 = .ok (.iand, 1))) ?_
  refine (r_i2c (pc := 13) (by decide +kernel : decode k_L_chr.2.1 13 = .ok (.i2c, 1))) ?_
  exact r_nret (pc := 14) (ty := .char) (s_chn j hj (ix i) hi1) rfl (by decide +kernel : decode k_L_chr.2.1 14 = .ok (.ireturn, 1))
theorem S_chr_run (hj : j < 4) {i : Int32} (hi : inb i (s_len.getD j 0) = true) : Run k_S_chr 0 [(0, .retAddr j), (1, .int i)] [] m (some (.int (s_ch j (ix i)))) m := by
  refine (r_aload_s (pc := 0) (k := 0) (by decide +kernel : decode k_S_chr.2.1 0 = .ok (.aload_n 0, 1)) rfl rfl) ?_
  refine (q_callVs (pc := 1) (As := []) (st := []) (st2 := [.int 1]) rfl rfl (by decide +kernel : decode k_S_chr.2.1 1 = .ok (.invokevirtual 492, 3)) rfl ⟨(gb_1 (i := 177) rfl rfl), (gb_1 (i := 178) rfl rfl), (gb_1 (i := 179) rfl rfl)⟩ mo_S_isL ⟨Nat.le_of_ble_eq_true rfl, Nat.le_of_ble_eq_true rfl⟩ (Nat.le_of_ble_eq_true rfl) (Nat.le_of_ble_eq_true rfl) hj (S_isL_run hj)) ?_
  refine (r_if_eq_f (pc := 4) 16 (by decide +kernel : decode k_S_chr.2.1 4 = .ok (.ifCond .eq (12), 3)) (by decide) (by decide)) ?_
  refine (r_aload_s (pc := 7) (k := 0) (by decide +kernel : decode k_S_chr.2.1 7 = .ok (.aload_n 0, 1)) rfl rfl) ?_
  refine r_sval (pc := 8) (by decide +kernel : decode k_S_chr.2.1 8 = .ok (.getfield 9, 3)) (gb_10 (i := 145) rfl rfl) hj ?_
  refine (r_iload_n (pc := 11) (k := 1) (by decide +kernel : decode k_S_chr.2.1 11 = .ok (.iload_n 1, 1)) rfl rfl) ?_
  refine (q_callS (pc := 12) (As := [.retAddr (j + 4), .int i]) (st := []) (st2 := [.int (s_ch j (ix i))]) rfl rfl (by decide +kernel : decode k_S_chr.2.1 12 = .ok (.invokestatic 495, 3)) ⟨(gb_1 (i := 181) rfl rfl), (gb_1 (i := 182) rfl rfl)⟩ mo_L_chr ⟨Nat.le_of_ble_eq_true rfl, Nat.le_of_ble_eq_true rfl⟩ (Nat.le_of_ble_eq_true rfl) (Nat.le_of_ble_eq_true rfl) (L_chr_run hj hi)) ?_
  exact r_nret (pc := 15) (ty := .char) (s_chn j hj (ix i) (inb_of hi).2) rfl (by decide +kernel : decode k_S_chr.2.1 15 = .ok (.ireturn, 1))
end Sm
/-! the learning of words -/
theorem P_Lexer_learn_5_run {a0 j : Nat} {x2 : Int32} (hj : j < 4) : ∀ (n : Nat) {x3 x4 : Int32} {m m' : Mem} {r : Int32}, mT m a0 = 6 → P_Lexer_learn_5 n a0 j x3 x4 m = some (r, m') → Run k_P_Lexer_learn 5 [(0, .ref a0), (1, .retAddr j), (2, .int x2), (3, .int x3), (4, .int x4)] [] m (some (.int r)) m' := by
  intro n
  induction n with
  | zero => intro x3 x4 m m' r ht h; exact absurd h (by simp [P_Lexer_learn_5])
  | succ n ih =>
    intro x3 x4 m m' r ht h
    rw [P_Lexer_learn_5.eq_2] at h
    have out : ∀ {x : Int32} {q : Mem}, Run k_P_Lexer_learn 67 [(0, .ref a0), (1, .retAddr j), (2, .int x2), (3, .int x), (4, .int x4)] [] q (some (.int (x + 1))) q := by
      intro x q
      refine (r_iload_n (pc := 67) (k := 3) (by decide +kernel : decode k_P_Lexer_learn.2.1 67 = .ok (.iload_n 3, 1)) rfl rfl) ?_
      refine (r_iconst (pc := 68) (by decide +kernel : decode k_P_Lexer_learn.2.1 68 = .ok (.iconst 1, 1)) (by decide : _ = (1 : Int32))) ?_
      refine (r_iadd (pc := 69) (by decide +kernel : decode k_P_Lexer_learn.2.1 69 = .ok (.iadd, 1))) ?_
      exact r_iret (pc := 70) rfl (by decide +kernel : decode k_P_Lexer_learn.2.1 70 = .ok (.ireturn, 1))
    refine (r_iload (pc := 5) (k := 4) (by decide +kernel : decode k_P_Lexer_learn.2.1 5 = .ok (.iload 4, 2)) rfl) ?_
    refine (r_aload_s (pc := 7) (k := 1) (by decide +kernel : decode k_P_Lexer_learn.2.1 7 = .ok (.aload_n 1, 1)) rfl rfl) ?_
    refine (q_callVs (pc := 8) (As := []) (st := [.int x4]) (st2 := [.int (Int32.ofNat (s_len.getD j 0)), .int x4]) rfl rfl (by decide +kernel : decode k_P_Lexer_learn.2.1 8 = .ok (.invokevirtual 40, 3)) rfl ⟨(gb_1 (i := 163) rfl rfl), (gb_1 (i := 164) rfl rfl), (gb_1 (i := 165) rfl rfl)⟩ mo_S_len ⟨Nat.le_of_ble_eq_true rfl, Nat.le_of_ble_eq_true rfl⟩ (Nat.le_of_ble_eq_true rfl) (Nat.le_of_ble_eq_true rfl) hj (S_len_run hj)) ?_
    rcases ite_some h with ⟨c1, h⟩ | ⟨c1, h⟩
    · refine (r_icmp_ge_t (pc := 11) (tgt := 67) (by decide +kernel : decode k_P_Lexer_learn.2.1 11 = .ok (.if_icmp .ge (56), 3)) (by decide) c1) ?_
      cases h
      exact out
    · refine (r_icmp_ge_f (pc := 11) 67 (by decide +kernel : decode k_P_Lexer_learn.2.1 11 = .ok (.if_icmp .ge (56), 3)) (by decide) c1) ?_
      obtain ⟨w, hw, h⟩ := gs_some h
      obtain ⟨tw, h⟩ := gt_some h
      refine (r_iload_n (pc := 14) (k := 3) (by decide +kernel : decode k_P_Lexer_learn.2.1 14 = .ok (.iload_n 3, 1)) rfl rfl) ?_
      refine (p_aload_n (pc := 15) (k := 0) (by decide +kernel : decode k_P_Lexer_learn.2.1 15 = .ok (.aload_n 0, 1)) rfl rfl) ?_
      refine (p_getr (pc := 16) hw (by decide +kernel : decode k_P_Lexer_learn.2.1 16 = .ok (.getfield 25, 3)) lg_5_25 ht) ?_
      refine (p_alen (pc := 19) (by decide +kernel : decode k_P_Lexer_learn.2.1 19 = .ok (.arraylength, 1)) (by rw [tw]; decide) rfl rfl) ?_
      rcases ite_some h with ⟨c2, h⟩ | ⟨c2, h⟩
      · refine (r_icmp_ge_t (pc := 20) (tgt := 67) (by decide +kernel : decode k_P_Lexer_learn.2.1 20 = .ok (.if_icmp .ge (47), 3)) (by decide) c2) ?_
        cases h
        exact out
      · refine (r_icmp_ge_f (pc := 20) 67 (by decide +kernel : decode k_P_Lexer_learn.2.1 20 = .ok (.if_icmp .ge (47), 3)) (by decide) c2) ?_
        obtain ⟨g1, h⟩ := gd_some h
        refine (r_aload_s (pc := 23) (k := 1) (by decide +kernel : decode k_P_Lexer_learn.2.1 23 = .ok (.aload_n 1, 1)) rfl rfl) ?_
        refine (r_iload (pc := 24) (k := 4) (by decide +kernel : decode k_P_Lexer_learn.2.1 24 = .ok (.iload 4, 2)) rfl) ?_
        refine (q_callVs (pc := 26) (As := [.int x4]) (st := []) (st2 := [.int (s_ch j (ix x4))]) rfl rfl (by decide +kernel : decode k_P_Lexer_learn.2.1 26 = .ok (.invokevirtual 46, 3)) rfl ⟨(gb_1 (i := 173) rfl rfl), (gb_1 (i := 174) rfl rfl), (gb_1 (i := 175) rfl rfl)⟩ mo_S_chr ⟨Nat.le_of_ble_eq_true rfl, Nat.le_of_ble_eq_true rfl⟩ (Nat.le_of_ble_eq_true rfl) (Nat.le_of_ble_eq_true rfl) hj (S_chr_run hj g1)) ?_
        refine (r_bipush (pc := 29) (by decide +kernel : decode k_P_Lexer_learn.2.1 29 = .ok (.bipush (32), 2)) (by decide : _ = (32 : Int32))) ?_
        rcases ite_some h with ⟨c3, h⟩ | ⟨c3, h⟩
        · refine (r_icmp_ne_f (pc := 31) 40 (by decide +kernel : decode k_P_Lexer_learn.2.1 31 = .ok (.if_icmp .ne (9), 3)) (by decide) c3) ?_
          refine (e_iinc (pc := 34) (k := 3) rfl (by decide : _ = (1 : Int32)) (by decide +kernel : decode k_P_Lexer_learn.2.1 34 = .ok (.iinc 3 (1), 3)) rfl (by decide) rfl) ?_
          refine (r_goto (pc := 37) (tgt := 61) (by decide +kernel : decode k_P_Lexer_learn.2.1 37 = .ok (.goto (24), 3)) (by decide)) ?_
          refine (e_iinc (pc := 61) (k := 4) rfl (by decide : _ = (1 : Int32)) (by decide +kernel : decode k_P_Lexer_learn.2.1 61 = .ok (.iinc 4 (1), 3)) rfl (by decide) rfl) ?_
          refine (r_goto (pc := 64) (tgt := 5) (by decide +kernel : decode k_P_Lexer_learn.2.1 64 = .ok (.goto (-59), 3)) (by decide)) ?_
          exact r_sub [2, 3, 4, 1, 0] rfl (ih ht h)
        · refine (r_icmp_ne_t (pc := 31) (tgt := 40) (by decide +kernel : decode k_P_Lexer_learn.2.1 31 = .ok (.if_icmp .ne (9), 3)) (by decide) c3) ?_
          obtain ⟨g2, h⟩ := gd_some h
          obtain ⟨r1, hr1, h⟩ := bp_some h
          obtain ⟨m1, hm1, h⟩ := vb_some h
          refine (p_aload_n (pc := 40) (k := 0) (by decide +kernel : decode k_P_Lexer_learn.2.1 40 = .ok (.aload_n 0, 1)) rfl rfl) ?_
          refine (p_getr (pc := 41) hw (by decide +kernel : decode k_P_Lexer_learn.2.1 41 = .ok (.getfield 25, 3)) lg_5_25 ht) ?_
          refine (r_iload_n (pc := 44) (k := 3) (by decide +kernel : decode k_P_Lexer_learn.2.1 44 = .ok (.iload_n 3, 1)) rfl rfl) ?_
          refine (p_aload_n (pc := 45) (k := 0) (by decide +kernel : decode k_P_Lexer_learn.2.1 45 = .ok (.aload_n 0, 1)) rfl rfl) ?_
          refine (p_getr (pc := 46) hw (by decide +kernel : decode k_P_Lexer_learn.2.1 46 = .ok (.getfield 25, 3)) lg_5_25 ht) ?_
          refine (r_iload_n (pc := 49) (k := 3) (by decide +kernel : decode k_P_Lexer_learn.2.1 49 = .ok (.iload_n 3, 1)) rfl rfl) ?_
          refine (p_lald (pc := 50) (by decide +kernel : decode k_P_Lexer_learn.2.1 50 = .ok (.laload, 1)) tw rfl g2) ?_
          refine (r_aload_s (pc := 51) (k := 1) (by decide +kernel : decode k_P_Lexer_learn.2.1 51 = .ok (.aload_n 1, 1)) rfl rfl) ?_
          refine (r_iload (pc := 52) (k := 4) (by decide +kernel : decode k_P_Lexer_learn.2.1 52 = .ok (.iload 4, 2)) rfl) ?_
          refine (q_callVs (pc := 54) (As := [.int x4]) (st := [.long (aL m w (ix x3)), .int x3, .ref w]) (st2 := [.int (s_ch j (ix x4)), .long (aL m w (ix x3)), .int x3, .ref w]) rfl rfl (by decide +kernel : decode k_P_Lexer_learn.2.1 54 = .ok (.invokevirtual 46, 3)) rfl ⟨(gb_1 (i := 173) rfl rfl), (gb_1 (i := 174) rfl rfl), (gb_1 (i := 175) rfl rfl)⟩ mo_S_chr ⟨Nat.le_of_ble_eq_true rfl, Nat.le_of_ble_eq_true rfl⟩ (Nat.le_of_ble_eq_true rfl) (Nat.le_of_ble_eq_true rfl) hj (S_chr_run hj g1)) ?_
          refine (q_callS (pc := 57) (As := [.long (aL m w (ix x3)), .int (s_ch j (ix x4))]) (st := [.int x3, .ref w]) (st2 := [.long r1, .int x3, .ref w]) rfl rfl (by decide +kernel : decode k_P_Lexer_learn.2.1 57 = .ok (.invokestatic 50, 3)) lc_5_50 mo_P_Lexer_withLetter ⟨Nat.le_of_ble_eq_true rfl, Nat.le_of_ble_eq_true rfl⟩ (Nat.le_of_ble_eq_true rfl) (Nat.le_of_ble_eq_true rfl) (P_Lexer_withLetter_run hr1)) ?_
          refine (p_last (pc := 60) hm1 (by decide +kernel : decode k_P_Lexer_learn.2.1 60 = .ok (.lastore, 1)) tw rfl g2) ?_
          refine (e_iinc (pc := 61) (k := 4) rfl (by decide : _ = (1 : Int32)) (by decide +kernel : decode k_P_Lexer_learn.2.1 61 = .ok (.iinc 4 (1), 3)) rfl (by decide) rfl) ?_
          refine (r_goto (pc := 64) (tgt := 5) (by decide +kernel : decode k_P_Lexer_learn.2.1 64 = .ok (.goto (-59), 3)) (by decide)) ?_
          exact r_sub [1, 2, 3, 4, 0] rfl (ih (by rw [hm1]; exact ht) h)
theorem P_Lexer_learn_run {a0 j : Nat} {x2 : Int32} {m m' : Mem} {r : Int32} (ht : mT m a0 = 6) (h : P_Lexer_learn a0 j x2 m = some (r, m')) : Run k_P_Lexer_learn 0 [(0, .ref a0), (1, .retAddr j), (2, .int x2)] [] m (some (.int r)) m' := by
  unfold P_Lexer_learn at h
  obtain ⟨g, h⟩ := gd_some h
  have hj : j < 4 := of_decide_eq_true g
  refine (r_iload_n (pc := 0) (k := 2) (by decide +kernel : decode k_P_Lexer_learn.2.1 0 = .ok (.iload_n 2, 1)) rfl rfl) ?_
  refine (e_istore_n (pc := 1) rfl (by decide +kernel : decode k_P_Lexer_learn.2.1 1 = .ok (.istore_n 3, 1)) rfl (by decide) rfl) ?_
  refine (r_iconst (pc := 2) (by decide +kernel : decode k_P_Lexer_learn.2.1 2 = .ok (.iconst 0, 1)) (by decide : _ = (0 : Int32))) ?_
  refine (e_istore (pc := 3) rfl (by decide +kernel : decode k_P_Lexer_learn.2.1 3 = .ok (.istore 4, 2)) (by decide) rfl) ?_
  exact r_sub [2, 3, 4, 1, 0] rfl (P_Lexer_learn_5_run hj FU ht h)
