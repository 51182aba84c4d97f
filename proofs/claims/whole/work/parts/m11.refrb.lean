/-! written by gen/emit.py -/
set_option maxRecDepth 100000 in
set_option maxHeartbeats 4000000 in
theorem R_expression_46_run {k12 : Int32 → Int32 → Mem → Option (Unit × Mem)} {k23 : Int32 → Mem → Option (Unit × Mem)} {x1 : Int32} {m m' : Mem} {r : Unit} (hk12 : ∀ (x1 : Int32) (x2 : Int32) (m : Mem) (r : Unit) (m' : Mem), RL m → k12 x1 x2 m = some (r, m') → Run k_R_expression 12 [(0, .ref 0), (1, .int x1), (2, .int x2)] [] m none m' ∧ RL m') (hk23 : ∀ (x1 : Int32) (m : Mem) (r : Unit) (m' : Mem), RL m → k23 x1 m = some (r, m') → Run k_R_expression 23 [(0, .ref 0), (1, .int x1)] [] m none m' ∧ RL m') (hL : RL m) (h : R_expression_46 k12 k23 x1 m = some (r, m')) : Run k_R_expression 46 [(0, .ref 0), (1, .int x1)] [] m none m' ∧ RL m' := by
  unfold R_expression_46 at h
  refine ai (p_aload_n (pc := 46) (k := 0) (by decide +kernel : decode k_R_expression.2.1 46 = .ok (.aload_n 0, 1)) rfl rfl) ?_
  refine ai (r_dup (pc := 47) (by decide +kernel : decode k_R_expression.2.1 47 = .ok (.dup, 1)) (rfl)) ?_
  refine ai (r_getI (pc := 48) (by decide +kernel : decode k_R_expression.2.1 48 = .ok (.getfield 347, 3)) lg_12_347 (by decide) (RC_0 hL).1) ?_
  refine ai (r_iconst (pc := 51) (by decide +kernel : decode k_R_expression.2.1 51 = .ok (.iconst 1, 1)) ic_1) ?_
  refine ai (r_iadd (pc := 52) (by decide +kernel : decode k_R_expression.2.1 52 = .ok (.iadd, 1))) ?_
  have c1 := (RC_0 hL).1
  obtain ⟨m2, hm2, h⟩ := vb_some h
  have hL : RL m2 := by rw [hm2]; exact hL
  refine ai (p_putI (pc := 53) hm2 (by decide +kernel : decode k_R_expression.2.1 53 = .ok (.putfield 347, 3)) lp_12_347 c1) ?_
  refine ai (p_aload_n (pc := 56) (k := 0) (by decide +kernel : decode k_R_expression.2.1 56 = .ok (.aload_n 0, 1)) rfl rfl) ?_
  obtain ⟨r3, m4, hr3, h⟩ := bn_some h
  have q5 := R_next_run hL hr3
  have c6 := (RC_0 hL).1
  have hL := q5.2
  refine ai (q_callV (pc := 57) (As := []) (st := []) (st2 := []) (b := 0) rfl rfl (by decide +kernel : decode k_R_expression.2.1 57 = .ok (.invokevirtual 335, 3)) lc_12_335 mo_R_next ⟨Nat.le_of_ble_eq_true rfl, Nat.le_of_ble_eq_true rfl⟩ (Nat.le_of_ble_eq_true rfl) (Nat.le_of_ble_eq_true rfl) c6 q5.1) ?_
  refine ai (p_aload_n (pc := 60) (k := 0) (by decide +kernel : decode k_R_expression.2.1 60 = .ok (.aload_n 0, 1)) rfl rfl) ?_
  refine ai (p_getr (pc := 61) (RR_1589_0 hL) (by decide +kernel : decode k_R_expression.2.1 61 = .ok (.getfield 125, 3)) lg_12_125 (RC_0 hL).1) ?_
  refine ai (p_aload_n (pc := 64) (k := 0) (by decide +kernel : decode k_R_expression.2.1 64 = .ok (.aload_n 0, 1)) rfl rfl) ?_
  refine ai (r_getI (pc := 65) (by decide +kernel : decode k_R_expression.2.1 65 = .ok (.getfield 412, 3)) lg_12_412 (by decide) (RC_0 hL).1) ?_
  refine ai (r_bipush (pc := 68) (by decide +kernel : decode k_R_expression.2.1 68 = .ok (.bipush (6), 2)) (by decide : _ = (6 : Int32))) ?_
  obtain ⟨g7, h⟩ := gd_some h
  have c8 := (RC_36 hL).1
  have c9 := (RC_36 hL).2
  obtain ⟨m10, hm10, h⟩ := vb_some h
  have hL : RL m10 := by rw [hm10]; exact hL
  refine ai (p_iast (pc := 70) hm10 (by decide +kernel : decode k_R_expression.2.1 70 = .ok (.iastore, 1)) c8 c9 g7) ?_
  refine ai (p_aload_n (pc := 71) (k := 0) (by decide +kernel : decode k_R_expression.2.1 71 = .ok (.aload_n 0, 1)) rfl rfl) ?_
  refine ai (r_dup (pc := 72) (by decide +kernel : decode k_R_expression.2.1 72 = .ok (.dup, 1)) (rfl)) ?_
  refine ai (r_getI (pc := 73) (by decide +kernel : decode k_R_expression.2.1 73 = .ok (.getfield 412, 3)) lg_12_412 (by decide) (RC_0 hL).1) ?_
  refine ai (r_iconst (pc := 76) (by decide +kernel : decode k_R_expression.2.1 76 = .ok (.iconst 1, 1)) ic_1) ?_
  refine ai (r_iadd (pc := 77) (by decide +kernel : decode k_R_expression.2.1 77 = .ok (.iadd, 1))) ?_
  have c11 := (RC_0 hL).1
  obtain ⟨m12, hm12, h⟩ := vb_some h
  have hL : RL m12 := by rw [hm12]; exact hL
  refine ai (p_putI (pc := 78) hm12 (by decide +kernel : decode k_R_expression.2.1 78 = .ok (.putfield 412, 3)) lp_12_412 c11) ?_
  refine ai (r_goto (pc := 81) (tgt := 23) (by decide +kernel : decode k_R_expression.2.1 81 = .ok (.goto (-58), 3)) (by decide)) ?_
  exact (hk23 x1 m12 _ _ hL h)
set_option maxRecDepth 100000 in
set_option maxHeartbeats 4000000 in
theorem R_expression_204_run {m m' : Mem} {r : Unit} (hL : RL m) (h : R_expression_204 m = some (r, m')) : Run k_R_expression 204 [(0, .ref 0)] [] m none m' ∧ RL m' := by
  unfold R_expression_204 at h
  refine ai (p_aload_n (pc := 204) (k := 0) (by decide +kernel : decode k_R_expression.2.1 204 = .ok (.aload_n 0, 1)) rfl rfl) ?_
  refine ai (r_iconst (pc := 205) (by decide +kernel : decode k_R_expression.2.1 205 = .ok (.iconst 0, 1)) ic_0) ?_
  obtain ⟨r1, m2, hr1, h⟩ := bn_some h
  have q3 := R_comesOut_run hL hr1
  have c4 := (RC_0 hL).1
  have hL := q3.2
  refine ai (q_callV (pc := 206) (As := [.int 0]) (st := []) (st2 := []) (b := 0) rfl rfl (by decide +kernel : decode k_R_expression.2.1 206 = .ok (.invokevirtual 418, 3)) lc_12_418 mo_R_comesOut ⟨Nat.le_of_ble_eq_true rfl, Nat.le_of_ble_eq_true rfl⟩ (Nat.le_of_ble_eq_true rfl) (Nat.le_of_ble_eq_true rfl) c4 q3.1) ?_
  cases h
  exact ⟨r_vret rfl (by decide +kernel : decode k_R_expression.2.1 209 = .ok (.return_, 1)), hL⟩
set_option maxRecDepth 100000 in
set_option maxHeartbeats 4000000 in
theorem R_expression_191_run {x1 : Int32} {m m' : Mem} {r : Unit} (hL : RL m) (h : R_expression_191 x1 m = some (r, m')) : Run k_R_expression 191 [(0, .ref 0), (1, .int x1)] [] m none m' ∧ RL m' := by
  unfold R_expression_191 at h
  refine ai (p_aload_n (pc := 191) (k := 0) (by decide +kernel : decode k_R_expression.2.1 191 = .ok (.aload_n 0, 1)) rfl rfl) ?_
  refine ai (r_getI (pc := 192) (by decide +kernel : decode k_R_expression.2.1 192 = .ok (.getfield 347, 3)) lg_12_347 (by decide) (RC_0 hL).1) ?_
  refine ai (r_iload_n (pc := 195) (k := 1) (by decide +kernel : decode k_R_expression.2.1 195 = .ok (.iload_n 1, 1)) rfl rfl) ?_
  rcases ite_some h with ⟨c1, h⟩ | ⟨c1, h⟩
  · refine ai (r_icmp_le_t (pc := 196) (tgt := 204) (by decide +kernel : decode k_R_expression.2.1 196 = .ok (.if_icmp .le (8), 3)) (by decide) c1) ?_
    exact (ai (r_sub [0] rfl) (R_expression_204_run hL h))
  · refine ai (r_icmp_le_f (pc := 196) 204 (by decide +kernel : decode k_R_expression.2.1 196 = .ok (.if_icmp .le (8), 3)) (by decide) c1) ?_
    refine ai (p_aload_n (pc := 199) (k := 0) (by decide +kernel : decode k_R_expression.2.1 199 = .ok (.aload_n 0, 1)) rfl rfl) ?_
    refine ai (r_iconst (pc := 200) (by decide +kernel : decode k_R_expression.2.1 200 = .ok (.iconst 1, 1)) ic_1) ?_
    obtain ⟨r2, m3, hr2, h⟩ := bn_some h
    have q4 := R_fail_run hL hr2
    have c5 := (RC_0 hL).1
    have hL := q4.2
    refine ai (q_callV (pc := 201) (As := [.int 1]) (st := []) (st2 := []) (b := 0) rfl rfl (by decide +kernel : decode k_R_expression.2.1 201 = .ok (.invokevirtual 329, 3)) lc_12_329 mo_R_fail ⟨Nat.le_of_ble_eq_true rfl, Nat.le_of_ble_eq_true rfl⟩ (Nat.le_of_ble_eq_true rfl) (Nat.le_of_ble_eq_true rfl) c5 q4.1) ?_
    exact (ai (r_sub [0] rfl) (R_expression_204_run hL h))
set_option maxRecDepth 100000 in
set_option maxHeartbeats 4000000 in
theorem R_expression_234_run {k12 : Int32 → Int32 → Mem → Option (Unit × Mem)} {x1 : Int32} {x2 : Int32} {s0 : Int32} {m m' : Mem} {r : Unit} (hk12 : ∀ (x1 : Int32) (x2 : Int32) (m : Mem) (r : Unit) (m' : Mem), RL m → k12 x1 x2 m = some (r, m') → Run k_R_expression 12 [(0, .ref 0), (1, .int x1), (2, .int x2)] [] m none m' ∧ RL m') (hL : RL m) (h : R_expression_234 k12 x1 x2 s0 m = some (r, m')) : Run k_R_expression 234 [(0, .ref 0), (1, .int x1), (2, .int x2)] [.int s0, .ref 0] m none m' ∧ RL m' := by
  unfold R_expression_234 at h
  obtain ⟨r1, m2, hr1, h⟩ := bn_some h
  have q3 := R_comesOut_run hL hr1
  have c4 := (RC_0 hL).1
  have hL := q3.2
  refine ai (q_callV (pc := 234) (As := [.int s0]) (st := []) (st2 := []) (b := 0) rfl rfl (by decide +kernel : decode k_R_expression.2.1 234 = .ok (.invokevirtual 418, 3)) lc_12_418 mo_R_comesOut ⟨Nat.le_of_ble_eq_true rfl, Nat.le_of_ble_eq_true rfl⟩ (Nat.le_of_ble_eq_true rfl) (Nat.le_of_ble_eq_true rfl) c4 q3.1) ?_
  refine ai (p_aload_n (pc := 237) (k := 0) (by decide +kernel : decode k_R_expression.2.1 237 = .ok (.aload_n 0, 1)) rfl rfl) ?_
  refine ai (p_getr (pc := 238) (RR_1589_0 hL) (by decide +kernel : decode k_R_expression.2.1 238 = .ok (.getfield 125, 3)) lg_12_125 (RC_0 hL).1) ?_
  refine ai (p_aload_n (pc := 241) (k := 0) (by decide +kernel : decode k_R_expression.2.1 241 = .ok (.aload_n 0, 1)) rfl rfl) ?_
  refine ai (r_getI (pc := 242) (by decide +kernel : decode k_R_expression.2.1 242 = .ok (.getfield 412, 3)) lg_12_412 (by decide) (RC_0 hL).1) ?_
  refine ai (p_aload_n (pc := 245) (k := 0) (by decide +kernel : decode k_R_expression.2.1 245 = .ok (.aload_n 0, 1)) rfl rfl) ?_
  refine ai (p_getr (pc := 246) (RR_1541_0 hL) (by decide +kernel : decode k_R_expression.2.1 246 = .ok (.getfield 20, 3)) lg_12_20 (RC_0 hL).1) ?_
  refine ai (p_aload_n (pc := 249) (k := 0) (by decide +kernel : decode k_R_expression.2.1 249 = .ok (.aload_n 0, 1)) rfl rfl) ?_
  refine ai (r_getI (pc := 250) (by decide +kernel : decode k_R_expression.2.1 250 = .ok (.getfield 317, 3)) lg_12_317 (by decide) (RC_0 hL).1) ?_
  obtain ⟨g5, h⟩ := gd_some h
  refine ai (p_iald (pc := 253) (by decide +kernel : decode k_R_expression.2.1 253 = .ok (.iaload, 1)) (RC_3 hL).1 (RC_3 hL).2 g5) ?_
  obtain ⟨g6, h⟩ := gd_some h
  have c7 := (RC_36 hL).1
  have c8 := (RC_36 hL).2
  obtain ⟨m9, hm9, h⟩ := vb_some h
  have hL : RL m9 := by rw [hm9]; exact hL
  refine ai (p_iast (pc := 254) hm9 (by decide +kernel : decode k_R_expression.2.1 254 = .ok (.iastore, 1)) c7 c8 g6) ?_
  refine ai (p_aload_n (pc := 255) (k := 0) (by decide +kernel : decode k_R_expression.2.1 255 = .ok (.aload_n 0, 1)) rfl rfl) ?_
  refine ai (r_dup (pc := 256) (by decide +kernel : decode k_R_expression.2.1 256 = .ok (.dup, 1)) (rfl)) ?_
  refine ai (r_getI (pc := 257) (by decide +kernel : decode k_R_expression.2.1 257 = .ok (.getfield 412, 3)) lg_12_412 (by decide) (RC_0 hL).1) ?_
  refine ai (r_iconst (pc := 260) (by decide +kernel : decode k_R_expression.2.1 260 = .ok (.iconst 1, 1)) ic_1) ?_
  refine ai (r_iadd (pc := 261) (by decide +kernel : decode k_R_expression.2.1 261 = .ok (.iadd, 1))) ?_
  have c10 := (RC_0 hL).1
  obtain ⟨m11, hm11, h⟩ := vb_some h
  have hL : RL m11 := by rw [hm11]; exact hL
  refine ai (p_putI (pc := 262) hm11 (by decide +kernel : decode k_R_expression.2.1 262 = .ok (.putfield 412, 3)) lp_12_412 c10) ?_
  refine ai (p_aload_n (pc := 265) (k := 0) (by decide +kernel : decode k_R_expression.2.1 265 = .ok (.aload_n 0, 1)) rfl rfl) ?_
  obtain ⟨r12, m13, hr12, h⟩ := bn_some h
  have q14 := R_next_run hL hr12
  have c15 := (RC_0 hL).1
  have hL := q14.2
  refine ai (q_callV (pc := 266) (As := []) (st := []) (st2 := []) (b := 0) rfl rfl (by decide +kernel : decode k_R_expression.2.1 266 = .ok (.invokevirtual 335, 3)) lc_12_335 mo_R_next ⟨Nat.le_of_ble_eq_true rfl, Nat.le_of_ble_eq_true rfl⟩ (Nat.le_of_ble_eq_true rfl) (Nat.le_of_ble_eq_true rfl) c15 q14.1) ?_
  refine ai (r_goto (pc := 269) (tgt := 12) (by decide +kernel : decode k_R_expression.2.1 269 = .ok (.goto (-257), 3)) (by decide)) ?_
  exact (hk12 x1 x2 m13 _ _ hL h)
set_option maxRecDepth 100000 in
set_option maxHeartbeats 4000000 in
theorem R_expression_229_run {k12 : Int32 → Int32 → Mem → Option (Unit × Mem)} {x1 : Int32} {x2 : Int32} {m m' : Mem} {r : Unit} (hk12 : ∀ (x1 : Int32) (x2 : Int32) (m : Mem) (r : Unit) (m' : Mem), RL m → k12 x1 x2 m = some (r, m') → Run k_R_expression 12 [(0, .ref 0), (1, .int x1), (2, .int x2)] [] m none m' ∧ RL m') (hL : RL m) (h : R_expression_229 k12 x1 x2 m = some (r, m')) : Run k_R_expression 229 [(0, .ref 0), (1, .int x1), (2, .int x2)] [.ref 0] m none m' ∧ RL m' := by
  unfold R_expression_229 at h
  refine ai (r_iconst (pc := 229) (by decide +kernel : decode k_R_expression.2.1 229 = .ok (.iconst 1, 1)) ic_1) ?_
  refine ai (r_goto (pc := 230) (tgt := 234) (by decide +kernel : decode k_R_expression.2.1 230 = .ok (.goto (4), 3)) (by decide)) ?_
  exact (R_expression_234_run hk12 hL h)
set_option maxRecDepth 100000 in
set_option maxHeartbeats 4000000 in
theorem R_expression_186_run {k12 : Int32 → Int32 → Mem → Option (Unit × Mem)} {x1 : Int32} {s0 : Int32} {m m' : Mem} {r : Unit} (hk12 : ∀ (x1 : Int32) (x2 : Int32) (m : Mem) (r : Unit) (m' : Mem), RL m → k12 x1 x2 m = some (r, m') → Run k_R_expression 12 [(0, .ref 0), (1, .int x1), (2, .int x2)] [] m none m' ∧ RL m') (hL : RL m) (h : R_expression_186 k12 x1 s0 m = some (r, m')) : Run k_R_expression 186 [(0, .ref 0), (1, .int x1)] [.int s0] m none m' ∧ RL m' := by
  unfold R_expression_186 at h
  refine ai (e_istore_n (pc := 186) rfl (by decide +kernel : decode k_R_expression.2.1 186 = .ok (.istore_n 2, 1)) rfl (by decide) rfl) ?_
  refine ai (r_iload_n (pc := 187) (k := 0) (by decide +kernel : decode k_R_expression.2.1 187 = .ok (.iload_n 2, 1)) rfl rfl) ?_
  rcases ite_some h with ⟨c1, h⟩ | ⟨c1, h⟩
  · refine ai (r_if_ne_f (pc := 188) 210 (by decide +kernel : decode k_R_expression.2.1 188 = .ok (.ifCond .ne (22), 3)) (by decide) c1) ?_
    exact (ai (r_sub [1, 2] rfl) (R_expression_191_run hL h))
  · refine ai (r_if_ne_t (pc := 188) (tgt := 210) (by decide +kernel : decode k_R_expression.2.1 188 = .ok (.ifCond .ne (22), 3)) (by decide) c1) ?_
    refine ai (p_aload_n (pc := 210) (k := 1) (by decide +kernel : decode k_R_expression.2.1 210 = .ok (.aload_n 0, 1)) rfl rfl) ?_
    refine ai (p_aload_n (pc := 211) (k := 1) (by decide +kernel : decode k_R_expression.2.1 211 = .ok (.aload_n 0, 1)) rfl rfl) ?_
    refine ai (r_bipush (pc := 212) (by decide +kernel : decode k_R_expression.2.1 212 = .ok (.bipush (10), 2)) (by decide : _ = (10 : Int32))) ?_
    obtain ⟨r2, m3, hr2, h⟩ := bn_some h
    have q4 := R_is_run hL hr2
    have c5 := (RC_0 hL).1
    have hL := q4.2
    refine ai (q_callV (pc := 214) (As := [.int 10]) (st := [.ref 0]) (st2 := [.int r2, .ref 0]) (b := 0) rfl rfl (by decide +kernel : decode k_R_expression.2.1 214 = .ok (.invokevirtual 332, 3)) lc_12_332 mo_R_is ⟨Nat.le_of_ble_eq_true rfl, Nat.le_of_ble_eq_true rfl⟩ (Nat.le_of_ble_eq_true rfl) (Nat.le_of_ble_eq_true rfl) c5 q4.1) ?_
    rcases ite_some h with ⟨c6, h⟩ | ⟨c6, h⟩
    · refine ai (r_if_ne_f (pc := 217) 229 (by decide +kernel : decode k_R_expression.2.1 217 = .ok (.ifCond .ne (12), 3)) (by decide) c6) ?_
      refine ai (p_aload_n (pc := 220) (k := 1) (by decide +kernel : decode k_R_expression.2.1 220 = .ok (.aload_n 0, 1)) rfl rfl) ?_
      refine ai (r_bipush (pc := 221) (by decide +kernel : decode k_R_expression.2.1 221 = .ok (.bipush (15), 2)) (by decide : _ = (15 : Int32))) ?_
      obtain ⟨r7, m8, hr7, h⟩ := bn_some h
      have q9 := R_is_run hL hr7
      have c10 := (RC_0 hL).1
      have hL := q9.2
      refine ai (q_callV (pc := 223) (As := [.int 15]) (st := [.ref 0]) (st2 := [.int r7, .ref 0]) (b := 0) rfl rfl (by decide +kernel : decode k_R_expression.2.1 223 = .ok (.invokevirtual 332, 3)) lc_12_332 mo_R_is ⟨Nat.le_of_ble_eq_true rfl, Nat.le_of_ble_eq_true rfl⟩ (Nat.le_of_ble_eq_true rfl) (Nat.le_of_ble_eq_true rfl) c10 q9.1) ?_
      rcases ite_some h with ⟨c11, h⟩ | ⟨c11, h⟩
      · refine ai (r_if_eq_t (pc := 226) (tgt := 233) (by decide +kernel : decode k_R_expression.2.1 226 = .ok (.ifCond .eq (7), 3)) (by decide) c11) ?_
        refine ai (r_iconst (pc := 233) (by decide +kernel : decode k_R_expression.2.1 233 = .ok (.iconst 0, 1)) ic_0) ?_
        exact (ai (r_sub [1, 2, 0] rfl) (R_expression_234_run hk12 hL h))
      · refine ai (r_if_eq_f (pc := 226) 233 (by decide +kernel : decode k_R_expression.2.1 226 = .ok (.ifCond .eq (7), 3)) (by decide) c11) ?_
        exact (ai (r_sub [1, 2, 0] rfl) (R_expression_229_run hk12 hL h))
    · refine ai (r_if_ne_t (pc := 217) (tgt := 229) (by decide +kernel : decode k_R_expression.2.1 217 = .ok (.ifCond .ne (12), 3)) (by decide) c6) ?_
      exact (ai (r_sub [1, 2, 0] rfl) (R_expression_229_run hk12 hL h))
set_option maxRecDepth 100000 in
set_option maxHeartbeats 4000000 in
theorem R_expression_181_run {k12 : Int32 → Int32 → Mem → Option (Unit × Mem)} {x1 : Int32} {m m' : Mem} {r : Unit} (hk12 : ∀ (x1 : Int32) (x2 : Int32) (m : Mem) (r : Unit) (m' : Mem), RL m → k12 x1 x2 m = some (r, m') → Run k_R_expression 12 [(0, .ref 0), (1, .int x1), (2, .int x2)] [] m none m' ∧ RL m') (hL : RL m) (h : R_expression_181 k12 x1 m = some (r, m')) : Run k_R_expression 181 [(0, .ref 0), (1, .int x1)] [] m none m' ∧ RL m' := by
  unfold R_expression_181 at h
  refine ai (r_iconst (pc := 181) (by decide +kernel : decode k_R_expression.2.1 181 = .ok (.iconst 1, 1)) ic_1) ?_
  refine ai (r_goto (pc := 182) (tgt := 186) (by decide +kernel : decode k_R_expression.2.1 182 = .ok (.goto (4), 3)) (by decide)) ?_
  exact (R_expression_186_run hk12 hL h)
set_option maxRecDepth 100000 in
set_option maxHeartbeats 4000000 in
theorem R_expression_145_run {k12 : Int32 → Int32 → Mem → Option (Unit × Mem)} {x1 : Int32} {m m' : Mem} {r : Unit} (hk12 : ∀ (x1 : Int32) (x2 : Int32) (m : Mem) (r : Unit) (m' : Mem), RL m → k12 x1 x2 m = some (r, m') → Run k_R_expression 12 [(0, .ref 0), (1, .int x1), (2, .int x2)] [] m none m' ∧ RL m') (hL : RL m) (h : R_expression_145 k12 x1 m = some (r, m')) : Run k_R_expression 145 [(0, .ref 0), (1, .int x1)] [] m none m' ∧ RL m' := by
  unfold R_expression_145 at h
  refine ai (p_aload_n (pc := 145) (k := 0) (by decide +kernel : decode k_R_expression.2.1 145 = .ok (.aload_n 0, 1)) rfl rfl) ?_
  refine ai (r_bipush (pc := 146) (by decide +kernel : decode k_R_expression.2.1 146 = .ok (.bipush (8), 2)) (by decide : _ = (8 : Int32))) ?_
  obtain ⟨r1, m2, hr1, h⟩ := bn_some h
  have q3 := R_is_run hL hr1
  have c4 := (RC_0 hL).1
  have hL := q3.2
  refine ai (q_callV (pc := 148) (As := [.int 8]) (st := []) (st2 := [.int r1]) (b := 0) rfl rfl (by decide +kernel : decode k_R_expression.2.1 148 = .ok (.invokevirtual 332, 3)) lc_12_332 mo_R_is ⟨Nat.le_of_ble_eq_true rfl, Nat.le_of_ble_eq_true rfl⟩ (Nat.le_of_ble_eq_true rfl) (Nat.le_of_ble_eq_true rfl) c4 q3.1) ?_
  rcases ite_some h with ⟨c5, h⟩ | ⟨c5, h⟩
  · refine ai (r_if_ne_f (pc := 151) 181 (by decide +kernel : decode k_R_expression.2.1 151 = .ok (.ifCond .ne (30), 3)) (by decide) c5) ?_
    refine ai (p_aload_n (pc := 154) (k := 0) (by decide +kernel : decode k_R_expression.2.1 154 = .ok (.aload_n 0, 1)) rfl rfl) ?_
    refine ai (r_bipush (pc := 155) (by decide +kernel : decode k_R_expression.2.1 155 = .ok (.bipush (9), 2)) (by decide : _ = (9 : Int32))) ?_
    obtain ⟨r6, m7, hr6, h⟩ := bn_some h
    have q8 := R_is_run hL hr6
    have c9 := (RC_0 hL).1
    have hL := q8.2
    refine ai (q_callV (pc := 157) (As := [.int 9]) (st := []) (st2 := [.int r6]) (b := 0) rfl rfl (by decide +kernel : decode k_R_expression.2.1 157 = .ok (.invokevirtual 332, 3)) lc_12_332 mo_R_is ⟨Nat.le_of_ble_eq_true rfl, Nat.le_of_ble_eq_true rfl⟩ (Nat.le_of_ble_eq_true rfl) (Nat.le_of_ble_eq_true rfl) c9 q8.1) ?_
    rcases ite_some h with ⟨c10, h⟩ | ⟨c10, h⟩
    · refine ai (r_if_ne_f (pc := 160) 181 (by decide +kernel : decode k_R_expression.2.1 160 = .ok (.ifCond .ne (21), 3)) (by decide) c10) ?_
      refine ai (p_aload_n (pc := 163) (k := 0) (by decide +kernel : decode k_R_expression.2.1 163 = .ok (.aload_n 0, 1)) rfl rfl) ?_
      refine ai (r_bipush (pc := 164) (by decide +kernel : decode k_R_expression.2.1 164 = .ok (.bipush (10), 2)) (by decide : _ = (10 : Int32))) ?_
      obtain ⟨r11, m12, hr11, h⟩ := bn_some h
      have q13 := R_is_run hL hr11
      have c14 := (RC_0 hL).1
      have hL := q13.2
      refine ai (q_callV (pc := 166) (As := [.int 10]) (st := []) (st2 := [.int r11]) (b := 0) rfl rfl (by decide +kernel : decode k_R_expression.2.1 166 = .ok (.invokevirtual 332, 3)) lc_12_332 mo_R_is ⟨Nat.le_of_ble_eq_true rfl, Nat.le_of_ble_eq_true rfl⟩ (Nat.le_of_ble_eq_true rfl) (Nat.le_of_ble_eq_true rfl) c14 q13.1) ?_
      rcases ite_some h with ⟨c15, h⟩ | ⟨c15, h⟩
      · refine ai (r_if_ne_f (pc := 169) 181 (by decide +kernel : decode k_R_expression.2.1 169 = .ok (.ifCond .ne (12), 3)) (by decide) c15) ?_
        refine ai (p_aload_n (pc := 172) (k := 0) (by decide +kernel : decode k_R_expression.2.1 172 = .ok (.aload_n 0, 1)) rfl rfl) ?_
        refine ai (r_bipush (pc := 173) (by decide +kernel : decode k_R_expression.2.1 173 = .ok (.bipush (15), 2)) (by decide : _ = (15 : Int32))) ?_
        obtain ⟨r16, m17, hr16, h⟩ := bn_some h
        have q18 := R_is_run hL hr16
        have c19 := (RC_0 hL).1
        have hL := q18.2
        refine ai (q_callV (pc := 175) (As := [.int 15]) (st := []) (st2 := [.int r16]) (b := 0) rfl rfl (by decide +kernel : decode k_R_expression.2.1 175 = .ok (.invokevirtual 332, 3)) lc_12_332 mo_R_is ⟨Nat.le_of_ble_eq_true rfl, Nat.le_of_ble_eq_true rfl⟩ (Nat.le_of_ble_eq_true rfl) (Nat.le_of_ble_eq_true rfl) c19 q18.1) ?_
        rcases ite_some h with ⟨c20, h⟩ | ⟨c20, h⟩
        · refine ai (r_if_eq_t (pc := 178) (tgt := 185) (by decide +kernel : decode k_R_expression.2.1 178 = .ok (.ifCond .eq (7), 3)) (by decide) c20) ?_
          refine ai (r_iconst (pc := 185) (by decide +kernel : decode k_R_expression.2.1 185 = .ok (.iconst 0, 1)) ic_0) ?_
          exact (R_expression_186_run hk12 hL h)
        · refine ai (r_if_eq_f (pc := 178) 185 (by decide +kernel : decode k_R_expression.2.1 178 = .ok (.ifCond .eq (7), 3)) (by decide) c20) ?_
          exact (R_expression_181_run hk12 hL h)
      · refine ai (r_if_ne_t (pc := 169) (tgt := 181) (by decide +kernel : decode k_R_expression.2.1 169 = .ok (.ifCond .ne (12), 3)) (by decide) c15) ?_
        exact (R_expression_181_run hk12 hL h)
    · refine ai (r_if_ne_t (pc := 160) (tgt := 181) (by decide +kernel : decode k_R_expression.2.1 160 = .ok (.ifCond .ne (21), 3)) (by decide) c10) ?_
      exact (R_expression_181_run hk12 hL h)
  · refine ai (r_if_ne_t (pc := 151) (tgt := 181) (by decide +kernel : decode k_R_expression.2.1 151 = .ok (.ifCond .ne (30), 3)) (by decide) c5) ?_
    exact (R_expression_181_run hk12 hL h)
set_option maxRecDepth 100000 in
set_option maxHeartbeats 4000000 in
theorem R_expression_96_run {k12 : Int32 → Int32 → Mem → Option (Unit × Mem)} {n : Nat} {x1 : Int32} {m m' : Mem} {r : Unit} (hk12 : ∀ (x1 : Int32) (x2 : Int32) (m : Mem) (r : Unit) (m' : Mem), RL m → k12 x1 x2 m = some (r, m') → Run k_R_expression 12 [(0, .ref 0), (1, .int x1), (2, .int x2)] [] m none m' ∧ RL m') (hL : RL m) (h : R_expression_96 k12 n x1 m = some (r, m')) : Run k_R_expression 96 [(0, .ref 0), (1, .int x1)] [] m none m' ∧ RL m' := by
  induction n generalizing x1 m r m' with
  | zero => exact absurd h (by simp [R_expression_96])
  | succ n ih =>
    rw [R_expression_96.eq_2] at h
    refine ai (p_aload_n (pc := 96) (k := 0) (by decide +kernel : decode k_R_expression.2.1 96 = .ok (.aload_n 0, 1)) rfl rfl) ?_
    refine ai (r_bipush (pc := 97) (by decide +kernel : decode k_R_expression.2.1 97 = .ok (.bipush (7), 2)) (by decide : _ = (7 : Int32))) ?_
    obtain ⟨r1, m2, hr1, h⟩ := bn_some h
    have q3 := R_is_run hL hr1
    have c4 := (RC_0 hL).1
    have hL := q3.2
    refine ai (q_callV (pc := 99) (As := [.int 7]) (st := []) (st2 := [.int r1]) (b := 0) rfl rfl (by decide +kernel : decode k_R_expression.2.1 99 = .ok (.invokevirtual 332, 3)) lc_12_332 mo_R_is ⟨Nat.le_of_ble_eq_true rfl, Nat.le_of_ble_eq_true rfl⟩ (Nat.le_of_ble_eq_true rfl) (Nat.le_of_ble_eq_true rfl) c4 q3.1) ?_
    rcases ite_some h with ⟨c5, h⟩ | ⟨c5, h⟩
    · refine ai (r_if_eq_t (pc := 102) (tgt := 145) (by decide +kernel : decode k_R_expression.2.1 102 = .ok (.ifCond .eq (43), 3)) (by decide) c5) ?_
      exact (R_expression_145_run hk12 hL h)
    · refine ai (r_if_eq_f (pc := 102) 145 (by decide +kernel : decode k_R_expression.2.1 102 = .ok (.ifCond .eq (43), 3)) (by decide) c5) ?_
      refine ai (p_aload_n (pc := 105) (k := 0) (by decide +kernel : decode k_R_expression.2.1 105 = .ok (.aload_n 0, 1)) rfl rfl) ?_
      refine ai (r_getI (pc := 106) (by decide +kernel : decode k_R_expression.2.1 106 = .ok (.getfield 347, 3)) lg_12_347 (by decide) (RC_0 hL).1) ?_
      refine ai (r_iload_n (pc := 109) (k := 1) (by decide +kernel : decode k_R_expression.2.1 109 = .ok (.iload_n 1, 1)) rfl rfl) ?_
      rcases ite_some h with ⟨c6, h⟩ | ⟨c6, h⟩
      · refine ai (r_icmp_le_t (pc := 110) (tgt := 145) (by decide +kernel : decode k_R_expression.2.1 110 = .ok (.if_icmp .le (35), 3)) (by decide) c6) ?_
        exact (R_expression_145_run hk12 hL h)
      · refine ai (r_icmp_le_f (pc := 110) 145 (by decide +kernel : decode k_R_expression.2.1 110 = .ok (.if_icmp .le (35), 3)) (by decide) c6) ?_
        refine ai (p_aload_n (pc := 113) (k := 0) (by decide +kernel : decode k_R_expression.2.1 113 = .ok (.aload_n 0, 1)) rfl rfl) ?_
        refine ai (r_iconst (pc := 114) (by decide +kernel : decode k_R_expression.2.1 114 = .ok (.iconst 0, 1)) ic_0) ?_
        obtain ⟨r7, m8, hr7, h⟩ := bn_some h
        have q9 := R_comesOut_run hL hr7
        have c10 := (RC_0 hL).1
        have hL := q9.2
        refine ai (q_callV (pc := 115) (As := [.int 0]) (st := []) (st2 := []) (b := 0) rfl rfl (by decide +kernel : decode k_R_expression.2.1 115 = .ok (.invokevirtual 418, 3)) lc_12_418 mo_R_comesOut ⟨Nat.le_of_ble_eq_true rfl, Nat.le_of_ble_eq_true rfl⟩ (Nat.le_of_ble_eq_true rfl) (Nat.le_of_ble_eq_true rfl) c10 q9.1) ?_
        refine ai (p_aload_n (pc := 118) (k := 0) (by decide +kernel : decode k_R_expression.2.1 118 = .ok (.aload_n 0, 1)) rfl rfl) ?_
        refine ai (r_dup (pc := 119) (by decide +kernel : decode k_R_expression.2.1 119 = .ok (.dup, 1)) (rfl)) ?_
        refine ai (r_getI (pc := 120) (by decide +kernel : decode k_R_expression.2.1 120 = .ok (.getfield 412, 3)) lg_12_412 (by decide) (RC_0 hL).1) ?_
        refine ai (r_iconst (pc := 123) (by decide +kernel : decode k_R_expression.2.1 123 = .ok (.iconst 1, 1)) ic_1) ?_
        refine ai (r_isub (pc := 124) (by decide +kernel : decode k_R_expression.2.1 124 = .ok (.isub, 1))) ?_
        have c11 := (RC_0 hL).1
        obtain ⟨m12, hm12, h⟩ := vb_some h
        have hL : RL m12 := by rw [hm12]; exact hL
        refine ai (p_putI (pc := 125) hm12 (by decide +kernel : decode k_R_expression.2.1 125 = .ok (.putfield 412, 3)) lp_12_412 c11) ?_
        refine ai (p_aload_n (pc := 128) (k := 0) (by decide +kernel : decode k_R_expression.2.1 128 = .ok (.aload_n 0, 1)) rfl rfl) ?_
        refine ai (r_dup (pc := 129) (by decide +kernel : decode k_R_expression.2.1 129 = .ok (.dup, 1)) (rfl)) ?_
        refine ai (r_getI (pc := 130) (by decide +kernel : decode k_R_expression.2.1 130 = .ok (.getfield 347, 3)) lg_12_347 (by decide) (RC_0 hL).1) ?_
        refine ai (r_iconst (pc := 133) (by decide +kernel : decode k_R_expression.2.1 133 = .ok (.iconst 1, 1)) ic_1) ?_
        refine ai (r_isub (pc := 134) (by decide +kernel : decode k_R_expression.2.1 134 = .ok (.isub, 1))) ?_
        have c13 := (RC_0 hL).1
        obtain ⟨m14, hm14, h⟩ := vb_some h
        have hL : RL m14 := by rw [hm14]; exact hL
        refine ai (p_putI (pc := 135) hm14 (by decide +kernel : decode k_R_expression.2.1 135 = .ok (.putfield 347, 3)) lp_12_347 c13) ?_
        refine ai (p_aload_n (pc := 138) (k := 0) (by decide +kernel : decode k_R_expression.2.1 138 = .ok (.aload_n 0, 1)) rfl rfl) ?_
        obtain ⟨r15, m16, hr15, h⟩ := bn_some h
        have q17 := R_next_run hL hr15
        have c18 := (RC_0 hL).1
        have hL := q17.2
        refine ai (q_callV (pc := 139) (As := []) (st := []) (st2 := []) (b := 0) rfl rfl (by decide +kernel : decode k_R_expression.2.1 139 = .ok (.invokevirtual 335, 3)) lc_12_335 mo_R_next ⟨Nat.le_of_ble_eq_true rfl, Nat.le_of_ble_eq_true rfl⟩ (Nat.le_of_ble_eq_true rfl) (Nat.le_of_ble_eq_true rfl) c18 q17.1) ?_
        refine ai (r_goto (pc := 142) (tgt := 96) (by decide +kernel : decode k_R_expression.2.1 142 = .ok (.goto (-46), 3)) (by decide)) ?_
        exact (ih hL h)
set_option maxRecDepth 100000 in
set_option maxHeartbeats 4000000 in
theorem R_expression_84_run {k12 : Int32 → Int32 → Mem → Option (Unit × Mem)} {x1 : Int32} {m m' : Mem} {r : Unit} (hk12 : ∀ (x1 : Int32) (x2 : Int32) (m : Mem) (r : Unit) (m' : Mem), RL m → k12 x1 x2 m = some (r, m') → Run k_R_expression 12 [(0, .ref 0), (1, .int x1), (2, .int x2)] [] m none m' ∧ RL m') (hL : RL m) (h : R_expression_84 k12 x1 m = some (r, m')) : Run k_R_expression 84 [(0, .ref 0), (1, .int x1)] [] m none m' ∧ RL m' := by
  unfold R_expression_84 at h
  refine ai (p_aload_n (pc := 84) (k := 0) (by decide +kernel : decode k_R_expression.2.1 84 = .ok (.aload_n 0, 1)) rfl rfl) ?_
  obtain ⟨r1, m2, hr1, h⟩ := bn_some h
  have q3 := R_unit_run hL hr1
  have c4 := (RC_0 hL).1
  have hL := q3.2
  refine ai (q_callV (pc := 85) (As := []) (st := []) (st2 := []) (b := 0) rfl rfl (by decide +kernel : decode k_R_expression.2.1 85 = .ok (.invokevirtual 415, 3)) lc_12_415 mo_R_unit ⟨Nat.le_of_ble_eq_true rfl, Nat.le_of_ble_eq_true rfl⟩ (Nat.le_of_ble_eq_true rfl) (Nat.le_of_ble_eq_true rfl) c4 q3.1) ?_
  refine ai (p_aload_n (pc := 88) (k := 0) (by decide +kernel : decode k_R_expression.2.1 88 = .ok (.aload_n 0, 1)) rfl rfl) ?_
  refine ai (r_getI (pc := 89) (by decide +kernel : decode k_R_expression.2.1 89 = .ok (.getfield 314, 3)) lg_12_314 (by decide) (RC_0 hL).1) ?_
  rcases ite_some h with ⟨c5, h⟩ | ⟨c5, h⟩
  · refine ai (r_if_le_t (pc := 92) (tgt := 96) (by decide +kernel : decode k_R_expression.2.1 92 = .ok (.ifCond .le (4), 3)) (by decide) c5) ?_
    exact (R_expression_96_run hk12 hL h)
  · refine ai (r_if_le_f (pc := 92) 96 (by decide +kernel : decode k_R_expression.2.1 92 = .ok (.ifCond .le (4), 3)) (by decide) c5) ?_
    cases h
    exact ⟨r_vret rfl (by decide +kernel : decode k_R_expression.2.1 95 = .ok (.return_, 1)), hL⟩
set_option maxRecDepth 100000 in
set_option maxHeartbeats 4000000 in
theorem R_expression_23_run {k12 : Int32 → Int32 → Mem → Option (Unit × Mem)} {n : Nat} {x1 : Int32} {m m' : Mem} {r : Unit} (hk12 : ∀ (x1 : Int32) (x2 : Int32) (m : Mem) (r : Unit) (m' : Mem), RL m → k12 x1 x2 m = some (r, m') → Run k_R_expression 12 [(0, .ref 0), (1, .int x1), (2, .int x2)] [] m none m' ∧ RL m') (hL : RL m) (h : R_expression_23 k12 n x1 m = some (r, m')) : Run k_R_expression 23 [(0, .ref 0), (1, .int x1)] [] m none m' ∧ RL m' := by
  induction n generalizing x1 m r m' with
  | zero => exact absurd h (by simp [R_expression_23])
  | succ n ih =>
    rw [R_expression_23.eq_2] at h
    refine ai (p_aload_n (pc := 23) (k := 0) (by decide +kernel : decode k_R_expression.2.1 23 = .ok (.aload_n 0, 1)) rfl rfl) ?_
    refine ai (r_bipush (pc := 24) (by decide +kernel : decode k_R_expression.2.1 24 = .ok (.bipush (6), 2)) (by decide : _ = (6 : Int32))) ?_
    obtain ⟨r1, m2, hr1, h⟩ := bn_some h
    have q3 := R_is_run hL hr1
    have c4 := (RC_0 hL).1
    have hL := q3.2
    refine ai (q_callV (pc := 26) (As := [.int 6]) (st := []) (st2 := [.int r1]) (b := 0) rfl rfl (by decide +kernel : decode k_R_expression.2.1 26 = .ok (.invokevirtual 332, 3)) lc_12_332 mo_R_is ⟨Nat.le_of_ble_eq_true rfl, Nat.le_of_ble_eq_true rfl⟩ (Nat.le_of_ble_eq_true rfl) (Nat.le_of_ble_eq_true rfl) c4 q3.1) ?_
    rcases ite_some h with ⟨c5, h⟩ | ⟨c5, h⟩
    · refine ai (r_if_eq_t (pc := 29) (tgt := 84) (by decide +kernel : decode k_R_expression.2.1 29 = .ok (.ifCond .eq (55), 3)) (by decide) c5) ?_
      exact (R_expression_84_run hk12 hL h)
    · refine ai (r_if_eq_f (pc := 29) 84 (by decide +kernel : decode k_R_expression.2.1 29 = .ok (.ifCond .eq (55), 3)) (by decide) c5) ?_
      refine ai (p_aload_n (pc := 32) (k := 0) (by decide +kernel : decode k_R_expression.2.1 32 = .ok (.aload_n 0, 1)) rfl rfl) ?_
      refine ai (r_getI (pc := 33) (by decide +kernel : decode k_R_expression.2.1 33 = .ok (.getfield 347, 3)) lg_12_347 (by decide) (RC_0 hL).1) ?_
      refine ai (r_bipush (pc := 36) (by decide +kernel : decode k_R_expression.2.1 36 = .ok (.bipush (6), 2)) (by decide : _ = (6 : Int32))) ?_
      rcases ite_some h with ⟨c6, h⟩ | ⟨c6, h⟩
      · refine ai (r_icmp_ne_f (pc := 38) 46 (by decide +kernel : decode k_R_expression.2.1 38 = .ok (.if_icmp .ne (8), 3)) (by decide) c6) ?_
        refine ai (p_aload_n (pc := 41) (k := 0) (by decide +kernel : decode k_R_expression.2.1 41 = .ok (.aload_n 0, 1)) rfl rfl) ?_
        refine ai (r_iconst (pc := 42) (by decide +kernel : decode k_R_expression.2.1 42 = .ok (.iconst 2, 1)) ic_2) ?_
        obtain ⟨r7, m8, hr7, h⟩ := bn_some h
        have q9 := R_fail_run hL hr7
        have c10 := (RC_0 hL).1
        have hL := q9.2
        refine ai (q_callV (pc := 43) (As := [.int 2]) (st := []) (st2 := []) (b := 0) rfl rfl (by decide +kernel : decode k_R_expression.2.1 43 = .ok (.invokevirtual 329, 3)) lc_12_329 mo_R_fail ⟨Nat.le_of_ble_eq_true rfl, Nat.le_of_ble_eq_true rfl⟩ (Nat.le_of_ble_eq_true rfl) (Nat.le_of_ble_eq_true rfl) c10 q9.1) ?_
        exact (R_expression_46_run hk12 (fun _ _ _ _ q1 q3 => ih q1 q3) hL h)
      · refine ai (r_icmp_ne_t (pc := 38) (tgt := 46) (by decide +kernel : decode k_R_expression.2.1 38 = .ok (.if_icmp .ne (8), 3)) (by decide) c6) ?_
        exact (R_expression_46_run hk12 (fun _ _ _ _ q1 q3 => ih q1 q3) hL h)
set_option maxRecDepth 100000 in
set_option maxHeartbeats 4000000 in
theorem R_expression_12_run {n : Nat} {x1 : Int32} {x2 : Int32} {m m' : Mem} {r : Unit} (hL : RL m) (h : R_expression_12 n x1 x2 m = some (r, m')) : Run k_R_expression 12 [(0, .ref 0), (1, .int x1), (2, .int x2)] [] m none m' ∧ RL m' := by
  induction n generalizing x1 x2 m r m' with
  | zero => exact absurd h (by simp [R_expression_12])
  | succ n ih =>
    rw [R_expression_12.eq_2] at h
    refine ai (r_iload_n (pc := 12) (k := 2) (by decide +kernel : decode k_R_expression.2.1 12 = .ok (.iload_n 2, 1)) rfl rfl) ?_
    rcases ite_some h with ⟨c1, h⟩ | ⟨c1, h⟩
    · refine ai (r_if_eq_t (pc := 13) (tgt := 272) (by decide +kernel : decode k_R_expression.2.1 13 = .ok (.ifCond .eq (259), 3)) (by decide) c1) ?_
      cases h
      exact ⟨r_vret rfl (by decide +kernel : decode k_R_expression.2.1 272 = .ok (.return_, 1)), hL⟩
    · refine ai (r_if_eq_f (pc := 13) 272 (by decide +kernel : decode k_R_expression.2.1 13 = .ok (.ifCond .eq (259), 3)) (by decide) c1) ?_
      refine ai (p_aload_n (pc := 16) (k := 0) (by decide +kernel : decode k_R_expression.2.1 16 = .ok (.aload_n 0, 1)) rfl rfl) ?_
      refine ai (r_getI (pc := 17) (by decide +kernel : decode k_R_expression.2.1 17 = .ok (.getfield 314, 3)) lg_12_314 (by decide) (RC_0 hL).1) ?_
      rcases ite_some h with ⟨c2, h⟩ | ⟨c2, h⟩
      · refine ai (r_if_ne_f (pc := 20) 272 (by decide +kernel : decode k_R_expression.2.1 20 = .ok (.ifCond .ne (252), 3)) (by decide) c2) ?_
        exact (ai (r_sub [0, 1] rfl) (R_expression_23_run (fun _ _ _ _ _ q1 q3 => ih q1 q3) hL h))
      · refine ai (r_if_ne_t (pc := 20) (tgt := 272) (by decide +kernel : decode k_R_expression.2.1 20 = .ok (.ifCond .ne (252), 3)) (by decide) c2) ?_
        cases h
        exact ⟨r_vret rfl (by decide +kernel : decode k_R_expression.2.1 272 = .ok (.return_, 1)), hL⟩
set_option maxRecDepth 100000 in
set_option maxHeartbeats 4000000 in
theorem R_expression_run {m m' : Mem} {r : Unit} (hL : RL m) (h : R_expression m = some (r, m')) : Run k_R_expression 0 [(0, .ref 0)] [] m none m' ∧ RL m' := by
  unfold R_expression at h
  refine ai (p_aload_n (pc := 0) (k := 0) (by decide +kernel : decode k_R_expression.2.1 0 = .ok (.aload_n 0, 1)) rfl rfl) ?_
  refine ai (r_iconst (pc := 1) (by decide +kernel : decode k_R_expression.2.1 1 = .ok (.iconst 0, 1)) ic_0) ?_
  have c1 := (RC_0 hL).1
  obtain ⟨m2, hm2, h⟩ := vb_some h
  have hL : RL m2 := by rw [hm2]; exact hL
  refine ai (p_putI (pc := 2) hm2 (by decide +kernel : decode k_R_expression.2.1 2 = .ok (.putfield 412, 3)) lp_12_412 c1) ?_
  refine ai (p_aload_n (pc := 5) (k := 0) (by decide +kernel : decode k_R_expression.2.1 5 = .ok (.aload_n 0, 1)) rfl rfl) ?_
  refine ai (r_getI (pc := 6) (by decide +kernel : decode k_R_expression.2.1 6 = .ok (.getfield 347, 3)) lg_12_347 (by decide) (RC_0 hL).1) ?_
  obtain ⟨v3, hv3, h⟩ := vb_some h
  refine ai (e_istore_n (pc := 9) hv3 (by decide +kernel : decode k_R_expression.2.1 9 = .ok (.istore_n 1, 1)) rfl (by decide) rfl) ?_
  refine ai (r_iconst (pc := 10) (by decide +kernel : decode k_R_expression.2.1 10 = .ok (.iconst 1, 1)) ic_1) ?_
  refine ai (e_istore_n (pc := 11) rfl (by decide +kernel : decode k_R_expression.2.1 11 = .ok (.istore_n 2, 1)) rfl (by decide) rfl) ?_
  exact (ai (r_sub [2, 1, 0] rfl) (R_expression_12_run hL h))
set_option maxRecDepth 100000 in
set_option maxHeartbeats 4000000 in
theorem R_literal_20_run {k2 : Int32 → Int32 → Mem → Option (Unit × Mem)} {x1 : Int32} {s0 : Int32} {m m' : Mem} {r : Unit} (hk2 : ∀ (x1 : Int32) (x2 : Int32) (m : Mem) (r : Unit) (m' : Mem), RL m → k2 x1 x2 m = some (r, m') → Run k_R_literal 2 [(0, .ref 0), (1, .int x1), (2, .int x2)] [] m none m' ∧ RL m') (hL : RL m) (h : R_literal_20 k2 x1 s0 m = some (r, m')) : Run k_R_literal 20 [(0, .ref 0), (1, .int x1)] [.int s0] m none m' ∧ RL m' := by
  unfold R_literal_20 at h
  refine ai (e_istore_n (pc := 20) rfl (by decide +kernel : decode k_R_literal.2.1 20 = .ok (.istore_n 2, 1)) rfl (by decide) rfl) ?_
  refine ai (p_aload_n (pc := 21) (k := 1) (by decide +kernel : decode k_R_literal.2.1 21 = .ok (.aload_n 0, 1)) rfl rfl) ?_
  obtain ⟨r1, m2, hr1, h⟩ := bn_some h
  have q3 := R_next_run hL hr1
  have c4 := (RC_0 hL).1
  have hL := q3.2
  refine ai (q_callV (pc := 22) (As := []) (st := []) (st2 := []) (b := 0) rfl rfl (by decide +kernel : decode k_R_literal.2.1 22 = .ok (.invokevirtual 335, 3)) lc_12_335 mo_R_next ⟨Nat.le_of_ble_eq_true rfl, Nat.le_of_ble_eq_true rfl⟩ (Nat.le_of_ble_eq_true rfl) (Nat.le_of_ble_eq_true rfl) c4 q3.1) ?_
  refine ai (r_goto (pc := 25) (tgt := 2) (by decide +kernel : decode k_R_literal.2.1 25 = .ok (.goto (-23), 3)) (by decide)) ?_
  exact (ai (r_sub [1, 2, 0] rfl) (hk2 x1 s0 m2 _ _ hL h))
set_option maxRecDepth 100000 in
set_option maxHeartbeats 4000000 in
theorem R_literal_136_run {x1 : Int32} {x2 : Int32} {x3 : Int32} {x4 : Int32} {x5 : Int32} {m m' : Mem} {r : Unit} (hL : RL m) (h : R_literal_136 x1 x2 x3 x4 x5 m = some (r, m')) : Run k_R_literal 136 [(0, .ref 0), (1, .int x1), (2, .int x2), (3, .int x3), (4, .int x4), (5, .int x5)] [] m none m' ∧ RL m' := by
  unfold R_literal_136 at h
  refine ai (p_aload_n (pc := 136) (k := 0) (by decide +kernel : decode k_R_literal.2.1 136 = .ok (.aload_n 0, 1)) rfl rfl) ?_
  refine ai (r_getI (pc := 137) (by decide +kernel : decode k_R_literal.2.1 137 = .ok (.getfield 314, 3)) lg_12_314 (by decide) (RC_0 hL).1) ?_
  rcases ite_some h with ⟨c1, h⟩ | ⟨c1, h⟩
  · refine ai (r_if_le_t (pc := 140) (tgt := 144) (by decide +kernel : decode k_R_literal.2.1 140 = .ok (.ifCond .le (4), 3)) (by decide) c1) ?_
    refine ai (p_aload_n (pc := 144) (k := 0) (by decide +kernel : decode k_R_literal.2.1 144 = .ok (.aload_n 0, 1)) rfl rfl) ?_
    refine ai (p_getr (pc := 145) (RR_1574_0 hL) (by decide +kernel : decode k_R_literal.2.1 145 = .ok (.getfield 98, 3)) lg_12_98 (RC_0 hL).1) ?_
    refine ai (p_aload_n (pc := 148) (k := 0) (by decide +kernel : decode k_R_literal.2.1 148 = .ok (.aload_n 0, 1)) rfl rfl) ?_
    refine ai (r_getI (pc := 149) (by decide +kernel : decode k_R_literal.2.1 149 = .ok (.getfield 353, 3)) lg_12_353 (by decide) (RC_0 hL).1) ?_
    refine ai (r_iload (pc := 152) (k := 5) (by decide +kernel : decode k_R_literal.2.1 152 = .ok (.iload 5, 2)) rfl) ?_
    obtain ⟨g2, h⟩ := gd_some h
    have c3 := (RC_27 hL).1
    have c4 := (RC_27 hL).2
    obtain ⟨m5, hm5, h⟩ := vb_some h
    have hL : RL m5 := by rw [hm5]; exact hL
    refine ai (p_iast (pc := 154) hm5 (by decide +kernel : decode k_R_literal.2.1 154 = .ok (.iastore, 1)) c3 c4 g2) ?_
    refine ai (p_aload_n (pc := 155) (k := 0) (by decide +kernel : decode k_R_literal.2.1 155 = .ok (.aload_n 0, 1)) rfl rfl) ?_
    refine ai (p_getr (pc := 156) (RR_1575_0 hL) (by decide +kernel : decode k_R_literal.2.1 156 = .ok (.getfield 101, 3)) lg_12_101 (RC_0 hL).1) ?_
    refine ai (p_aload_n (pc := 159) (k := 0) (by decide +kernel : decode k_R_literal.2.1 159 = .ok (.aload_n 0, 1)) rfl rfl) ?_
    refine ai (r_getI (pc := 160) (by decide +kernel : decode k_R_literal.2.1 160 = .ok (.getfield 353, 3)) lg_12_353 (by decide) (RC_0 hL).1) ?_
    refine ai (r_iload_n (pc := 163) (k := 2) (by decide +kernel : decode k_R_literal.2.1 163 = .ok (.iload_n 2, 1)) rfl rfl) ?_
    obtain ⟨g6, h⟩ := gd_some h
    obtain ⟨z7, h⟩ := gz_some h
    have c8 := (RC_28 hL).1
    have c9 := (RC_28 hL).2
    obtain ⟨m10, hm10, h⟩ := vb_some h
    have hL : RL m10 := by rw [hm10]; exact hL
    refine ai (p_zast (pc := 164) hm10 z7 (by decide +kernel : decode k_R_literal.2.1 164 = .ok (.bastore, 1)) c8 c9 g6) ?_
    refine ai (p_aload_n (pc := 165) (k := 0) (by decide +kernel : decode k_R_literal.2.1 165 = .ok (.aload_n 0, 1)) rfl rfl) ?_
    refine ai (p_getr (pc := 166) (RR_1576_0 hL) (by decide +kernel : decode k_R_literal.2.1 166 = .ok (.getfield 104, 3)) lg_12_104 (RC_0 hL).1) ?_
    refine ai (p_aload_n (pc := 169) (k := 0) (by decide +kernel : decode k_R_literal.2.1 169 = .ok (.aload_n 0, 1)) rfl rfl) ?_
    refine ai (r_getI (pc := 170) (by decide +kernel : decode k_R_literal.2.1 170 = .ok (.getfield 353, 3)) lg_12_353 (by decide) (RC_0 hL).1) ?_
    refine ai (r_iload_n (pc := 173) (k := 1) (by decide +kernel : decode k_R_literal.2.1 173 = .ok (.iload_n 1, 1)) rfl rfl) ?_
    obtain ⟨g11, h⟩ := gd_some h
    obtain ⟨z12, h⟩ := gz_some h
    have c13 := (RC_29 hL).1
    have c14 := (RC_29 hL).2
    obtain ⟨m15, hm15, h⟩ := vb_some h
    have hL : RL m15 := by rw [hm15]; exact hL
    refine ai (p_zast (pc := 174) hm15 z12 (by decide +kernel : decode k_R_literal.2.1 174 = .ok (.bastore, 1)) c13 c14 g11) ?_
    refine ai (p_aload_n (pc := 175) (k := 0) (by decide +kernel : decode k_R_literal.2.1 175 = .ok (.aload_n 0, 1)) rfl rfl) ?_
    refine ai (p_getr (pc := 176) (RR_1577_0 hL) (by decide +kernel : decode k_R_literal.2.1 176 = .ok (.getfield 107, 3)) lg_12_107 (RC_0 hL).1) ?_
    refine ai (p_aload_n (pc := 179) (k := 0) (by decide +kernel : decode k_R_literal.2.1 179 = .ok (.aload_n 0, 1)) rfl rfl) ?_
    refine ai (r_getI (pc := 180) (by decide +kernel : decode k_R_literal.2.1 180 = .ok (.getfield 353, 3)) lg_12_353 (by decide) (RC_0 hL).1) ?_
    refine ai (r_iload_n (pc := 183) (k := 3) (by decide +kernel : decode k_R_literal.2.1 183 = .ok (.iload_n 3, 1)) rfl rfl) ?_
    obtain ⟨g16, h⟩ := gd_some h
    have c17 := (RC_30 hL).1
    have c18 := (RC_30 hL).2
    obtain ⟨m19, hm19, h⟩ := vb_some h
    have hL : RL m19 := by rw [hm19]; exact hL
    refine ai (p_iast (pc := 184) hm19 (by decide +kernel : decode k_R_literal.2.1 184 = .ok (.iastore, 1)) c17 c18 g16) ?_
    refine ai (p_aload_n (pc := 185) (k := 0) (by decide +kernel : decode k_R_literal.2.1 185 = .ok (.aload_n 0, 1)) rfl rfl) ?_
    refine ai (p_getr (pc := 186) (RR_1578_0 hL) (by decide +kernel : decode k_R_literal.2.1 186 = .ok (.getfield 110, 3)) lg_12_110 (RC_0 hL).1) ?_
    refine ai (p_aload_n (pc := 189) (k := 0) (by decide +kernel : decode k_R_literal.2.1 189 = .ok (.aload_n 0, 1)) rfl rfl) ?_
    refine ai (r_getI (pc := 190) (by decide +kernel : decode k_R_literal.2.1 190 = .ok (.getfield 353, 3)) lg_12_353 (by decide) (RC_0 hL).1) ?_
    refine ai (r_iload (pc := 193) (k := 4) (by decide +kernel : decode k_R_literal.2.1 193 = .ok (.iload 4, 2)) rfl) ?_
    obtain ⟨g20, h⟩ := gd_some h
    have c21 := (RC_31 hL).1
    have c22 := (RC_31 hL).2
    obtain ⟨m23, hm23, h⟩ := vb_some h
    have hL : RL m23 := by rw [hm23]; exact hL
    refine ai (p_iast (pc := 195) hm23 (by decide +kernel : decode k_R_literal.2.1 195 = .ok (.iastore, 1)) c21 c22 g20) ?_
    refine ai (p_aload_n (pc := 196) (k := 0) (by decide +kernel : decode k_R_literal.2.1 196 = .ok (.aload_n 0, 1)) rfl rfl) ?_
    refine ai (p_getr (pc := 197) (RR_1579_0 hL) (by decide +kernel : decode k_R_literal.2.1 197 = .ok (.getfield 113, 3)) lg_12_113 (RC_0 hL).1) ?_
    refine ai (p_aload_n (pc := 200) (k := 0) (by decide +kernel : decode k_R_literal.2.1 200 = .ok (.aload_n 0, 1)) rfl rfl) ?_
    refine ai (r_getI (pc := 201) (by decide +kernel : decode k_R_literal.2.1 201 = .ok (.getfield 353, 3)) lg_12_353 (by decide) (RC_0 hL).1) ?_
    refine ai (p_aload_n (pc := 204) (k := 0) (by decide +kernel : decode k_R_literal.2.1 204 = .ok (.aload_n 0, 1)) rfl rfl) ?_
    refine ai (r_getI (pc := 205) (by decide +kernel : decode k_R_literal.2.1 205 = .ok (.getfield 356, 3)) lg_12_356 (by decide) (RC_0 hL).1) ?_
    obtain ⟨g24, h⟩ := gd_some h
    have c25 := (RC_32 hL).1
    have c26 := (RC_32 hL).2
    obtain ⟨m27, hm27, h⟩ := vb_some h
    have hL : RL m27 := by rw [hm27]; exact hL
    refine ai (p_iast (pc := 208) hm27 (by decide +kernel : decode k_R_literal.2.1 208 = .ok (.iastore, 1)) c25 c26 g24) ?_
    refine ai (p_aload_n (pc := 209) (k := 0) (by decide +kernel : decode k_R_literal.2.1 209 = .ok (.aload_n 0, 1)) rfl rfl) ?_
    refine ai (r_dup (pc := 210) (by decide +kernel : decode k_R_literal.2.1 210 = .ok (.dup, 1)) (rfl)) ?_
    refine ai (r_getI (pc := 211) (by decide +kernel : decode k_R_literal.2.1 211 = .ok (.getfield 353, 3)) lg_12_353 (by decide) (RC_0 hL).1) ?_
    refine ai (r_iconst (pc := 214) (by decide +kernel : decode k_R_literal.2.1 214 = .ok (.iconst 1, 1)) ic_1) ?_
    refine ai (r_iadd (pc := 215) (by decide +kernel : decode k_R_literal.2.1 215 = .ok (.iadd, 1))) ?_
    have c28 := (RC_0 hL).1
    obtain ⟨m29, hm29, h⟩ := vb_some h
    have hL : RL m29 := by rw [hm29]; exact hL
    refine ai (p_putI (pc := 216) hm29 (by decide +kernel : decode k_R_literal.2.1 216 = .ok (.putfield 353, 3)) lp_12_353 c28) ?_
    cases h
    exact ⟨r_vret rfl (by decide +kernel : decode k_R_literal.2.1 219 = .ok (.return_, 1)), hL⟩
  · refine ai (r_if_le_f (pc := 140) 144 (by decide +kernel : decode k_R_literal.2.1 140 = .ok (.ifCond .le (4), 3)) (by decide) c1) ?_
    cases h
    exact ⟨r_vret rfl (by decide +kernel : decode k_R_literal.2.1 143 = .ok (.return_, 1)), hL⟩
set_option maxRecDepth 100000 in
set_option maxHeartbeats 4000000 in
theorem R_literal_122_run {x1 : Int32} {x2 : Int32} {x3 : Int32} {x5 : Int32} {m m' : Mem} {r : Unit} (hL : RL m) (h : R_literal_122 x1 x2 x3 x5 m = some (r, m')) : Run k_R_literal 122 [(0, .ref 0), (1, .int x1), (2, .int x2), (3, .int x3), (5, .int x5)] [] m none m' ∧ RL m' := by
  unfold R_literal_122 at h
  refine ai (p_aload_n (pc := 122) (k := 0) (by decide +kernel : decode k_R_literal.2.1 122 = .ok (.aload_n 0, 1)) rfl rfl) ?_
  obtain ⟨r1, m2, hr1, h⟩ := bn_some h
  have q3 := R_next_run hL hr1
  have c4 := (RC_0 hL).1
  have hL := q3.2
  refine ai (q_callV (pc := 123) (As := []) (st := []) (st2 := []) (b := 0) rfl rfl (by decide +kernel : decode k_R_literal.2.1 123 = .ok (.invokevirtual 335, 3)) lc_12_335 mo_R_next ⟨Nat.le_of_ble_eq_true rfl, Nat.le_of_ble_eq_true rfl⟩ (Nat.le_of_ble_eq_true rfl) (Nat.le_of_ble_eq_true rfl) c4 q3.1) ?_
  refine ai (p_aload_n (pc := 126) (k := 0) (by decide +kernel : decode k_R_literal.2.1 126 = .ok (.aload_n 0, 1)) rfl rfl) ?_
  refine ai (r_getI (pc := 127) (by decide +kernel : decode k_R_literal.2.1 127 = .ok (.getfield 356, 3)) lg_12_356 (by decide) (RC_0 hL).1) ?_
  obtain ⟨v5, hv5, h⟩ := vb_some h
  refine ai (e_istore (pc := 130) hv5 (by decide +kernel : decode k_R_literal.2.1 130 = .ok (.istore 4, 2)) (by decide) rfl) ?_
  refine ai (p_aload_n (pc := 132) (k := 1) (by decide +kernel : decode k_R_literal.2.1 132 = .ok (.aload_n 0, 1)) rfl rfl) ?_
  obtain ⟨r6, m7, hr6, h⟩ := bn_some h
  have q8 := R_expression_run hL hr6
  have c9 := (RC_0 hL).1
  have hL := q8.2
  refine ai (q_callV (pc := 133) (As := []) (st := []) (st2 := []) (b := 0) rfl rfl (by decide +kernel : decode k_R_literal.2.1 133 = .ok (.invokevirtual 399, 3)) lc_12_399 mo_R_expression ⟨Nat.le_of_ble_eq_true rfl, Nat.le_of_ble_eq_true rfl⟩ (Nat.le_of_ble_eq_true rfl) (Nat.le_of_ble_eq_true rfl) c9 q8.1) ?_
  exact (ai (r_sub [1, 2, 3, 4, 0, 5] rfl) (R_literal_136_run hL h))
set_option maxRecDepth 100000 in
set_option maxHeartbeats 4000000 in
theorem R_literal_117_run {x1 : Int32} {x2 : Int32} {x3 : Int32} {x5 : Int32} {m m' : Mem} {r : Unit} (hL : RL m) (h : R_literal_117 x1 x2 x3 x5 m = some (r, m')) : Run k_R_literal 117 [(0, .ref 0), (1, .int x1), (2, .int x2), (3, .int x3), (5, .int x5)] [] m none m' ∧ RL m' := by
  unfold R_literal_117 at h
  refine ai (p_aload_n (pc := 117) (k := 0) (by decide +kernel : decode k_R_literal.2.1 117 = .ok (.aload_n 0, 1)) rfl rfl) ?_
  refine ai (r_iconst (pc := 118) (by decide +kernel : decode k_R_literal.2.1 118 = .ok (.iconst 1, 1)) ic_1) ?_
  obtain ⟨r1, m2, hr1, h⟩ := bn_some h
  have q3 := R_fail_run hL hr1
  have c4 := (RC_0 hL).1
  have hL := q3.2
  refine ai (q_callV (pc := 119) (As := [.int 1]) (st := []) (st2 := []) (b := 0) rfl rfl (by decide +kernel : decode k_R_literal.2.1 119 = .ok (.invokevirtual 329, 3)) lc_12_329 mo_R_fail ⟨Nat.le_of_ble_eq_true rfl, Nat.le_of_ble_eq_true rfl⟩ (Nat.le_of_ble_eq_true rfl) (Nat.le_of_ble_eq_true rfl) c4 q3.1) ?_
  exact (R_literal_122_run hL h)
set_option maxRecDepth 100000 in
set_option maxHeartbeats 4000000 in
theorem R_literal_97_run {x1 : Int32} {x2 : Int32} {x3 : Int32} {s0 : Int32} {m m' : Mem} {r : Unit} (hL : RL m) (h : R_literal_97 x1 x2 x3 s0 m = some (r, m')) : Run k_R_literal 97 [(0, .ref 0), (1, .int x1), (2, .int x2), (3, .int x3)] [.int s0] m none m' ∧ RL m' := by
  unfold R_literal_97 at h
  refine ai (e_istore (pc := 97) rfl (by decide +kernel : decode k_R_literal.2.1 97 = .ok (.istore 5, 2)) (by decide) rfl) ?_
  refine ai (p_aload_n (pc := 99) (k := 1) (by decide +kernel : decode k_R_literal.2.1 99 = .ok (.aload_n 0, 1)) rfl rfl) ?_
  refine ai (r_getI (pc := 100) (by decide +kernel : decode k_R_literal.2.1 100 = .ok (.getfield 314, 3)) lg_12_314 (by decide) (RC_0 hL).1) ?_
  rcases ite_some h with ⟨c1, h⟩ | ⟨c1, h⟩
  · refine ai (r_if_ne_f (pc := 103) 122 (by decide +kernel : decode k_R_literal.2.1 103 = .ok (.ifCond .ne (19), 3)) (by decide) c1) ?_
    refine ai (r_iload (pc := 106) (k := 0) (by decide +kernel : decode k_R_literal.2.1 106 = .ok (.iload 5, 2)) rfl) ?_
    rcases ite_some h with ⟨c2, h⟩ | ⟨c2, h⟩
    · refine ai (r_if_lt_t (pc := 108) (tgt := 117) (by decide +kernel : decode k_R_literal.2.1 108 = .ok (.ifCond .lt (9), 3)) (by decide) c2) ?_
      exact (ai (r_sub [1, 2, 3, 4, 0] rfl) (R_literal_117_run hL h))
    · refine ai (r_if_lt_f (pc := 108) 117 (by decide +kernel : decode k_R_literal.2.1 108 = .ok (.ifCond .lt (9), 3)) (by decide) c2) ?_
      refine ai (r_iload (pc := 111) (k := 0) (by decide +kernel : decode k_R_literal.2.1 111 = .ok (.iload 5, 2)) rfl) ?_
      refine ai (r_iconst (pc := 113) (by decide +kernel : decode k_R_literal.2.1 113 = .ok (.iconst 3, 1)) ic_3) ?_
      rcases ite_some h with ⟨c3, h⟩ | ⟨c3, h⟩
      · refine ai (r_icmp_le_t (pc := 114) (tgt := 122) (by decide +kernel : decode k_R_literal.2.1 114 = .ok (.if_icmp .le (8), 3)) (by decide) c3) ?_
        exact (ai (r_sub [1, 2, 3, 4, 0] rfl) (R_literal_122_run hL h))
      · refine ai (r_icmp_le_f (pc := 114) 122 (by decide +kernel : decode k_R_literal.2.1 114 = .ok (.if_icmp .le (8), 3)) (by decide) c3) ?_
        exact (ai (r_sub [1, 2, 3, 4, 0] rfl) (R_literal_117_run hL h))
  · refine ai (r_if_ne_t (pc := 103) (tgt := 122) (by decide +kernel : decode k_R_literal.2.1 103 = .ok (.ifCond .ne (19), 3)) (by decide) c1) ?_
    exact (ai (r_sub [1, 2, 3, 4, 0] rfl) (R_literal_122_run hL h))
set_option maxRecDepth 100000 in
set_option maxHeartbeats 4000000 in
theorem R_literal_28_run {x1 : Int32} {x2 : Int32} {m m' : Mem} {r : Unit} (hL : RL m) (h : R_literal_28 x1 x2 m = some (r, m')) : Run k_R_literal 28 [(0, .ref 0), (1, .int x1), (2, .int x2)] [] m none m' ∧ RL m' := by
  unfold R_literal_28 at h
  refine ai (p_aload_n (pc := 28) (k := 0) (by decide +kernel : decode k_R_literal.2.1 28 = .ok (.aload_n 0, 1)) rfl rfl) ?_
  refine ai (r_getI (pc := 29) (by decide +kernel : decode k_R_literal.2.1 29 = .ok (.getfield 356, 3)) lg_12_356 (by decide) (RC_0 hL).1) ?_
  obtain ⟨v1, hv1, h⟩ := vb_some h
  refine ai (e_istore_n (pc := 32) hv1 (by decide +kernel : decode k_R_literal.2.1 32 = .ok (.istore_n 3, 1)) rfl (by decide) rfl) ?_
  refine ai (p_aload_n (pc := 33) (k := 1) (by decide +kernel : decode k_R_literal.2.1 33 = .ok (.aload_n 0, 1)) rfl rfl) ?_
  refine ai (r_getI (pc := 34) (by decide +kernel : decode k_R_literal.2.1 34 = .ok (.getfield 356, 3)) lg_12_356 (by decide) (RC_0 hL).1) ?_
  obtain ⟨v2, hv2, h⟩ := vb_some h
  refine ai (e_istore (pc := 37) hv2 (by decide +kernel : decode k_R_literal.2.1 37 = .ok (.istore 4, 2)) (by decide) rfl) ?_
  refine ai (r_iconst (pc := 39) (by decide +kernel : decode k_R_literal.2.1 39 = .ok (.iconst 4, 1)) ic_4) ?_
  refine ai (e_istore (pc := 40) rfl (by decide +kernel : decode k_R_literal.2.1 40 = .ok (.istore 5, 2)) (by decide) rfl) ?_
  refine ai (p_aload_n (pc := 42) (k := 3) (by decide +kernel : decode k_R_literal.2.1 42 = .ok (.aload_n 0, 1)) rfl rfl) ?_
  refine ai (r_bipush (pc := 43) (by decide +kernel : decode k_R_literal.2.1 43 = .ok (.bipush (47), 2)) (by decide : _ = (47 : Int32))) ?_
  obtain ⟨r3, m4, hr3, h⟩ := bn_some h
  have q5 := R_is_run hL hr3
  have c6 := (RC_0 hL).1
  have hL := q5.2
  refine ai (q_callV (pc := 45) (As := [.int 47]) (st := []) (st2 := [.int r3]) (b := 0) rfl rfl (by decide +kernel : decode k_R_literal.2.1 45 = .ok (.invokevirtual 332, 3)) lc_12_332 mo_R_is ⟨Nat.le_of_ble_eq_true rfl, Nat.le_of_ble_eq_true rfl⟩ (Nat.le_of_ble_eq_true rfl) (Nat.le_of_ble_eq_true rfl) c6 q5.1) ?_
  rcases ite_some h with ⟨c7, h⟩ | ⟨c7, h⟩
  · refine ai (r_if_eq_t (pc := 48) (tgt := 70) (by decide +kernel : decode k_R_literal.2.1 48 = .ok (.ifCond .eq (22), 3)) (by decide) c7) ?_
    refine ai (p_aload_n (pc := 70) (k := 3) (by decide +kernel : decode k_R_literal.2.1 70 = .ok (.aload_n 0, 1)) rfl rfl) ?_
    obtain ⟨r8, m9, hr8, h⟩ := bn_some h
    have q10 := R_expression_run hL hr8
    have c11 := (RC_0 hL).1
    have hL := q10.2
    refine ai (q_callV (pc := 71) (As := []) (st := []) (st2 := []) (b := 0) rfl rfl (by decide +kernel : decode k_R_literal.2.1 71 = .ok (.invokevirtual 399, 3)) lc_12_399 mo_R_expression ⟨Nat.le_of_ble_eq_true rfl, Nat.le_of_ble_eq_true rfl⟩ (Nat.le_of_ble_eq_true rfl) (Nat.le_of_ble_eq_true rfl) c11 q10.1) ?_
    refine ai (p_aload_n (pc := 74) (k := 3) (by decide +kernel : decode k_R_literal.2.1 74 = .ok (.aload_n 0, 1)) rfl rfl) ?_
    refine ai (r_getI (pc := 75) (by decide +kernel : decode k_R_literal.2.1 75 = .ok (.getfield 314, 3)) lg_12_314 (by decide) (RC_0 hL).1) ?_
    rcases ite_some h with ⟨c12, h⟩ | ⟨c12, h⟩
    · refine ai (r_if_le_t (pc := 78) (tgt := 85) (by decide +kernel : decode k_R_literal.2.1 78 = .ok (.ifCond .le (7), 3)) (by decide) c12) ?_
      refine ai (p_aload_n (pc := 85) (k := 3) (by decide +kernel : decode k_R_literal.2.1 85 = .ok (.aload_n 0, 1)) rfl rfl) ?_
      refine ai (p_getr (pc := 86) (RR_1541_0 hL) (by decide +kernel : decode k_R_literal.2.1 86 = .ok (.getfield 20, 3)) lg_12_20 (RC_0 hL).1) ?_
      refine ai (p_aload_n (pc := 89) (k := 3) (by decide +kernel : decode k_R_literal.2.1 89 = .ok (.aload_n 0, 1)) rfl rfl) ?_
      refine ai (r_getI (pc := 90) (by decide +kernel : decode k_R_literal.2.1 90 = .ok (.getfield 317, 3)) lg_12_317 (by decide) (RC_0 hL).1) ?_
      obtain ⟨g13, h⟩ := gd_some h
      refine ai (p_iald (pc := 93) (by decide +kernel : decode k_R_literal.2.1 93 = .ok (.iaload, 1)) (RC_3 hL).1 (RC_3 hL).2 g13) ?_
      refine ai (r_bipush (pc := 94) (by decide +kernel : decode k_R_literal.2.1 94 = .ok (.bipush (11), 2)) (by decide : _ = (11 : Int32))) ?_
      refine ai (r_isub (pc := 96) (by decide +kernel : decode k_R_literal.2.1 96 = .ok (.isub, 1))) ?_
      exact (ai (r_sub [3, 4, 5, 2] rfl) (R_literal_97_run hL h))
    · refine ai (r_if_le_f (pc := 78) 85 (by decide +kernel : decode k_R_literal.2.1 78 = .ok (.ifCond .le (7), 3)) (by decide) c12) ?_
      refine ai (r_iconst (pc := 81) (by decide +kernel : decode k_R_literal.2.1 81 = .ok (.iconst 0, 1)) ic_0) ?_
      refine ai (r_goto (pc := 82) (tgt := 97) (by decide +kernel : decode k_R_literal.2.1 82 = .ok (.goto (15), 3)) (by decide)) ?_
      exact (ai (r_sub [3, 4, 5, 2] rfl) (R_literal_97_run hL h))
  · refine ai (r_if_eq_f (pc := 48) 70 (by decide +kernel : decode k_R_literal.2.1 48 = .ok (.ifCond .eq (22), 3)) (by decide) c7) ?_
    refine ai (p_aload_n (pc := 51) (k := 3) (by decide +kernel : decode k_R_literal.2.1 51 = .ok (.aload_n 0, 1)) rfl rfl) ?_
    obtain ⟨r14, m15, hr14, h⟩ := bn_some h
    have q16 := R_next_run hL hr14
    have c17 := (RC_0 hL).1
    have hL := q16.2
    refine ai (q_callV (pc := 52) (As := []) (st := []) (st2 := []) (b := 0) rfl rfl (by decide +kernel : decode k_R_literal.2.1 52 = .ok (.invokevirtual 335, 3)) lc_12_335 mo_R_next ⟨Nat.le_of_ble_eq_true rfl, Nat.le_of_ble_eq_true rfl⟩ (Nat.le_of_ble_eq_true rfl) (Nat.le_of_ble_eq_true rfl) c17 q16.1) ?_
    refine ai (p_aload_n (pc := 55) (k := 3) (by decide +kernel : decode k_R_literal.2.1 55 = .ok (.aload_n 0, 1)) rfl rfl) ?_
    refine ai (r_iconst (pc := 56) (by decide +kernel : decode k_R_literal.2.1 56 = .ok (.iconst 0, 1)) ic_0) ?_
    refine ai (p_aload_n (pc := 57) (k := 3) (by decide +kernel : decode k_R_literal.2.1 57 = .ok (.aload_n 0, 1)) rfl rfl) ?_
    refine ai (r_iconst (pc := 58) (by decide +kernel : decode k_R_literal.2.1 58 = .ok (.iconst 0, 1)) ic_0) ?_
    refine ai (r_bipush (pc := 59) (by decide +kernel : decode k_R_literal.2.1 59 = .ok (.bipush (7), 2)) (by decide : _ = (7 : Int32))) ?_
    obtain ⟨r18, m19, hr18, h⟩ := bn_some h
    have q20 := R_number_run hL hr18
    have c21 := (RC_0 hL).1
    have hL := q20.2
    refine ai (q_callV (pc := 61) (As := [.int 0, .int 7]) (st := [.int 0, .ref 0]) (st2 := [.int r18, .int 0, .ref 0]) (b := 0) rfl rfl (by decide +kernel : decode k_R_literal.2.1 61 = .ok (.invokevirtual 389, 3)) lc_12_389 mo_R_number ⟨Nat.le_of_ble_eq_true rfl, Nat.le_of_ble_eq_true rfl⟩ (Nat.le_of_ble_eq_true rfl) (Nat.le_of_ble_eq_true rfl) c21 q20.1) ?_
    obtain ⟨r22, m23, hr22, h⟩ := bn_some h
    have q24 := R_emit_run hL hr22
    have c25 := (RC_0 hL).1
    have hL := q24.2
    refine ai (q_callV (pc := 64) (As := [.int 0, .int r18]) (st := []) (st2 := []) (b := 0) rfl rfl (by decide +kernel : decode k_R_literal.2.1 64 = .ok (.invokevirtual 409, 3)) lc_12_409 mo_R_emit ⟨Nat.le_of_ble_eq_true rfl, Nat.le_of_ble_eq_true rfl⟩ (Nat.le_of_ble_eq_true rfl) (Nat.le_of_ble_eq_true rfl) c25 q24.1) ?_
    refine ai (r_goto (pc := 67) (tgt := 136) (by decide +kernel : decode k_R_literal.2.1 67 = .ok (.goto (69), 3)) (by decide)) ?_
    exact (ai (r_sub [3, 4, 5, 2, 1, 0] rfl) (R_literal_136_run hL h))
set_option maxRecDepth 100000 in
set_option maxHeartbeats 4000000 in
theorem R_literal_2_run {n : Nat} {x1 : Int32} {x2 : Int32} {m m' : Mem} {r : Unit} (hL : RL m) (h : R_literal_2 n x1 x2 m = some (r, m')) : Run k_R_literal 2 [(0, .ref 0), (1, .int x1), (2, .int x2)] [] m none m' ∧ RL m' := by
  induction n generalizing x1 x2 m r m' with
  | zero => exact absurd h (by simp [R_literal_2])
  | succ n ih =>
    rw [R_literal_2.eq_2] at h
    refine ai (p_aload_n (pc := 2) (k := 0) (by decide +kernel : decode k_R_literal.2.1 2 = .ok (.aload_n 0, 1)) rfl rfl) ?_
    refine ai (r_bipush (pc := 3) (by decide +kernel : decode k_R_literal.2.1 3 = .ok (.bipush (46), 2)) (by decide : _ = (46 : Int32))) ?_
    obtain ⟨r1, m2, hr1, h⟩ := bn_some h
    have q3 := R_is_run hL hr1
    have c4 := (RC_0 hL).1
    have hL := q3.2
    refine ai (q_callV (pc := 5) (As := [.int 46]) (st := []) (st2 := [.int r1]) (b := 0) rfl rfl (by decide +kernel : decode k_R_literal.2.1 5 = .ok (.invokevirtual 332, 3)) lc_12_332 mo_R_is ⟨Nat.le_of_ble_eq_true rfl, Nat.le_of_ble_eq_true rfl⟩ (Nat.le_of_ble_eq_true rfl) (Nat.le_of_ble_eq_true rfl) c4 q3.1) ?_
    rcases ite_some h with ⟨c5, h⟩ | ⟨c5, h⟩
    · refine ai (r_if_eq_t (pc := 8) (tgt := 28) (by decide +kernel : decode k_R_literal.2.1 8 = .ok (.ifCond .eq (20), 3)) (by decide) c5) ?_
      exact (R_literal_28_run hL h)
    · refine ai (r_if_eq_f (pc := 8) 28 (by decide +kernel : decode k_R_literal.2.1 8 = .ok (.ifCond .eq (20), 3)) (by decide) c5) ?_
      refine ai (r_iload_n (pc := 11) (k := 2) (by decide +kernel : decode k_R_literal.2.1 11 = .ok (.iload_n 2, 1)) rfl rfl) ?_
      rcases ite_some h with ⟨c6, h⟩ | ⟨c6, h⟩
      · refine ai (r_if_ne_f (pc := 12) 19 (by decide +kernel : decode k_R_literal.2.1 12 = .ok (.ifCond .ne (7), 3)) (by decide) c6) ?_
        refine ai (r_iconst (pc := 15) (by decide +kernel : decode k_R_literal.2.1 15 = .ok (.iconst 1, 1)) ic_1) ?_
        refine ai (r_goto (pc := 16) (tgt := 20) (by decide +kernel : decode k_R_literal.2.1 16 = .ok (.goto (4), 3)) (by decide)) ?_
        exact (ai (r_sub [0, 1] rfl) (R_literal_20_run (fun _ _ _ _ _ q1 q3 => ih q1 q3) hL h))
      · refine ai (r_if_ne_t (pc := 12) (tgt := 19) (by decide +kernel : decode k_R_literal.2.1 12 = .ok (.ifCond .ne (7), 3)) (by decide) c6) ?_
        refine ai (r_iconst (pc := 19) (by decide +kernel : decode k_R_literal.2.1 19 = .ok (.iconst 0, 1)) ic_0) ?_
        exact (ai (r_sub [0, 1] rfl) (R_literal_20_run (fun _ _ _ _ _ q1 q3 => ih q1 q3) hL h))
set_option maxRecDepth 100000 in
set_option maxHeartbeats 4000000 in
theorem R_literal_run {x1 : Int32} {m m' : Mem} {r : Unit} (hL : RL m) (h : R_literal x1 m = some (r, m')) : Run k_R_literal 0 [(0, .ref 0), (1, .int x1)] [] m none m' ∧ RL m' := by
  unfold R_literal at h
  refine ai (r_iconst (pc := 0) (by decide +kernel : decode k_R_literal.2.1 0 = .ok (.iconst 0, 1)) ic_0) ?_
  refine ai (e_istore_n (pc := 1) rfl (by decide +kernel : decode k_R_literal.2.1 1 = .ok (.istore_n 2, 1)) rfl (by decide) rfl) ?_
  exact (ai (r_sub [1, 2, 0] rfl) (R_literal_2_run hL h))
set_option maxRecDepth 100000 in
set_option maxHeartbeats 4000000 in
theorem R_cond_45_run {k4 : Int32 → Int32 → Mem → Option (Unit × Mem)} {x1 : Int32} {s0 : Int32} {m m' : Mem} {r : Unit} (hk4 : ∀ (x1 : Int32) (x2 : Int32) (m : Mem) (r : Unit) (m' : Mem), RL m → k4 x1 x2 m = some (r, m') → Run k_R_cond 4 [(0, .ref 0), (1, .int x1), (2, .int x2)] [] m none m' ∧ RL m') (hL : RL m) (h : R_cond_45 k4 x1 s0 m = some (r, m')) : Run k_R_cond 45 [(0, .ref 0), (1, .int x1)] [.int s0] m none m' ∧ RL m' := by
  unfold R_cond_45 at h
  refine ai (e_istore_n (pc := 45) rfl (by decide +kernel : decode k_R_cond.2.1 45 = .ok (.istore_n 2, 1)) rfl (by decide) rfl) ?_
  refine ai (r_iload_n (pc := 46) (k := 0) (by decide +kernel : decode k_R_cond.2.1 46 = .ok (.iload_n 2, 1)) rfl rfl) ?_
  rcases ite_some h with ⟨c1, h⟩ | ⟨c1, h⟩
  · refine ai (r_if_eq_t (pc := 47) (tgt := 4) (by decide +kernel : decode k_R_cond.2.1 47 = .ok (.ifCond .eq (-43), 3)) (by decide) c1) ?_
    exact (ai (r_sub [1, 2, 0] rfl) (hk4 x1 s0 m _ _ hL h))
  · refine ai (r_if_eq_f (pc := 47) 4 (by decide +kernel : decode k_R_cond.2.1 47 = .ok (.ifCond .eq (-43), 3)) (by decide) c1) ?_
    refine ai (p_aload_n (pc := 50) (k := 1) (by decide +kernel : decode k_R_cond.2.1 50 = .ok (.aload_n 0, 1)) rfl rfl) ?_
    obtain ⟨r2, m3, hr2, h⟩ := bn_some h
    have q4 := R_next_run hL hr2
    have c5 := (RC_0 hL).1
    have hL := q4.2
    refine ai (q_callV (pc := 51) (As := []) (st := []) (st2 := []) (b := 0) rfl rfl (by decide +kernel : decode k_R_cond.2.1 51 = .ok (.invokevirtual 335, 3)) lc_12_335 mo_R_next ⟨Nat.le_of_ble_eq_true rfl, Nat.le_of_ble_eq_true rfl⟩ (Nat.le_of_ble_eq_true rfl) (Nat.le_of_ble_eq_true rfl) c5 q4.1) ?_
    refine ai (r_goto (pc := 54) (tgt := 4) (by decide +kernel : decode k_R_cond.2.1 54 = .ok (.goto (-50), 3)) (by decide)) ?_
    exact (ai (r_sub [1, 2, 0] rfl) (hk4 x1 s0 m3 _ _ hL h))
set_option maxRecDepth 100000 in
set_option maxHeartbeats 4000000 in
theorem R_cond_40_run {k4 : Int32 → Int32 → Mem → Option (Unit × Mem)} {x1 : Int32} {m m' : Mem} {r : Unit} (hk4 : ∀ (x1 : Int32) (x2 : Int32) (m : Mem) (r : Unit) (m' : Mem), RL m → k4 x1 x2 m = some (r, m') → Run k_R_cond 4 [(0, .ref 0), (1, .int x1), (2, .int x2)] [] m none m' ∧ RL m') (hL : RL m) (h : R_cond_40 k4 x1 m = some (r, m')) : Run k_R_cond 40 [(0, .ref 0), (1, .int x1)] [] m none m' ∧ RL m' := by
  unfold R_cond_40 at h
  refine ai (r_iconst (pc := 40) (by decide +kernel : decode k_R_cond.2.1 40 = .ok (.iconst 1, 1)) ic_1) ?_
  refine ai (r_goto (pc := 41) (tgt := 45) (by decide +kernel : decode k_R_cond.2.1 41 = .ok (.goto (4), 3)) (by decide)) ?_
  exact (R_cond_45_run hk4 hL h)
set_option maxRecDepth 100000 in
set_option maxHeartbeats 4000000 in
theorem R_cond_4_run {n : Nat} {x1 : Int32} {x2 : Int32} {m m' : Mem} {r : Unit} (hL : RL m) (h : R_cond_4 n x1 x2 m = some (r, m')) : Run k_R_cond 4 [(0, .ref 0), (1, .int x1), (2, .int x2)] [] m none m' ∧ RL m' := by
  induction n generalizing x1 x2 m r m' with
  | zero => exact absurd h (by simp [R_cond_4])
  | succ n ih =>
    rw [R_cond_4.eq_2] at h
    refine ai (r_iload_n (pc := 4) (k := 2) (by decide +kernel : decode k_R_cond.2.1 4 = .ok (.iload_n 2, 1)) rfl rfl) ?_
    rcases ite_some h with ⟨c1, h⟩ | ⟨c1, h⟩
    · refine ai (r_if_eq_t (pc := 5) (tgt := 57) (by decide +kernel : decode k_R_cond.2.1 5 = .ok (.ifCond .eq (52), 3)) (by decide) c1) ?_
      cases h
      exact ⟨r_vret rfl (by decide +kernel : decode k_R_cond.2.1 57 = .ok (.return_, 1)), hL⟩
    · refine ai (r_if_eq_f (pc := 5) 57 (by decide +kernel : decode k_R_cond.2.1 5 = .ok (.ifCond .eq (52), 3)) (by decide) c1) ?_
      refine ai (p_aload_n (pc := 8) (k := 0) (by decide +kernel : decode k_R_cond.2.1 8 = .ok (.aload_n 0, 1)) rfl rfl) ?_
      refine ai (r_getI (pc := 9) (by decide +kernel : decode k_R_cond.2.1 9 = .ok (.getfield 314, 3)) lg_12_314 (by decide) (RC_0 hL).1) ?_
      rcases ite_some h with ⟨c2, h⟩ | ⟨c2, h⟩
      · refine ai (r_if_ne_f (pc := 12) 57 (by decide +kernel : decode k_R_cond.2.1 12 = .ok (.ifCond .ne (45), 3)) (by decide) c2) ?_
        refine ai (p_aload_n (pc := 15) (k := 0) (by decide +kernel : decode k_R_cond.2.1 15 = .ok (.aload_n 0, 1)) rfl rfl) ?_
        refine ai (r_iload_n (pc := 16) (k := 1) (by decide +kernel : decode k_R_cond.2.1 16 = .ok (.iload_n 1, 1)) rfl rfl) ?_
        obtain ⟨r3, m4, hr3, h⟩ := bn_some h
        have q5 := R_literal_run hL hr3
        have c6 := (RC_0 hL).1
        have hL := q5.2
        refine ai (q_callV (pc := 17) (As := [.int x1]) (st := []) (st2 := []) (b := 0) rfl rfl (by decide +kernel : decode k_R_cond.2.1 17 = .ok (.invokevirtual 405, 3)) lc_12_405 mo_R_literal ⟨Nat.le_of_ble_eq_true rfl, Nat.le_of_ble_eq_true rfl⟩ (Nat.le_of_ble_eq_true rfl) (Nat.le_of_ble_eq_true rfl) c6 q5.1) ?_
        refine ai (p_aload_n (pc := 20) (k := 0) (by decide +kernel : decode k_R_cond.2.1 20 = .ok (.aload_n 0, 1)) rfl rfl) ?_
        refine ai (r_bipush (pc := 21) (by decide +kernel : decode k_R_cond.2.1 21 = .ok (.bipush (44), 2)) (by decide : _ = (44 : Int32))) ?_
        obtain ⟨r7, m8, hr7, h⟩ := bn_some h
        have q9 := R_is_run hL hr7
        have c10 := (RC_0 hL).1
        have hL := q9.2
        refine ai (q_callV (pc := 23) (As := [.int 44]) (st := []) (st2 := [.int r7]) (b := 0) rfl rfl (by decide +kernel : decode k_R_cond.2.1 23 = .ok (.invokevirtual 332, 3)) lc_12_332 mo_R_is ⟨Nat.le_of_ble_eq_true rfl, Nat.le_of_ble_eq_true rfl⟩ (Nat.le_of_ble_eq_true rfl) (Nat.le_of_ble_eq_true rfl) c10 q9.1) ?_
        refine ai (e_istore_n (pc := 26) rfl (by decide +kernel : decode k_R_cond.2.1 26 = .ok (.istore_n 1, 1)) rfl (by decide) rfl) ?_
        refine ai (r_iload_n (pc := 27) (k := 0) (by decide +kernel : decode k_R_cond.2.1 27 = .ok (.iload_n 1, 1)) rfl rfl) ?_
        rcases ite_some h with ⟨c11, h⟩ | ⟨c11, h⟩
        · refine ai (r_if_ne_f (pc := 28) 40 (by decide +kernel : decode k_R_cond.2.1 28 = .ok (.ifCond .ne (12), 3)) (by decide) c11) ?_
          refine ai (p_aload_n (pc := 31) (k := 1) (by decide +kernel : decode k_R_cond.2.1 31 = .ok (.aload_n 0, 1)) rfl rfl) ?_
          refine ai (r_bipush (pc := 32) (by decide +kernel : decode k_R_cond.2.1 32 = .ok (.bipush (45), 2)) (by decide : _ = (45 : Int32))) ?_
          obtain ⟨r12, m13, hr12, h⟩ := bn_some h
          have q14 := R_is_run hL hr12
          have c15 := (RC_0 hL).1
          have hL := q14.2
          refine ai (q_callV (pc := 34) (As := [.int 45]) (st := []) (st2 := [.int r12]) (b := 0) rfl rfl (by decide +kernel : decode k_R_cond.2.1 34 = .ok (.invokevirtual 332, 3)) lc_12_332 mo_R_is ⟨Nat.le_of_ble_eq_true rfl, Nat.le_of_ble_eq_true rfl⟩ (Nat.le_of_ble_eq_true rfl) (Nat.le_of_ble_eq_true rfl) c15 q14.1) ?_
          rcases ite_some h with ⟨c16, h⟩ | ⟨c16, h⟩
          · refine ai (r_if_eq_t (pc := 37) (tgt := 44) (by decide +kernel : decode k_R_cond.2.1 37 = .ok (.ifCond .eq (7), 3)) (by decide) c16) ?_
            refine ai (r_iconst (pc := 44) (by decide +kernel : decode k_R_cond.2.1 44 = .ok (.iconst 0, 1)) ic_0) ?_
            exact (ai (r_sub [1, 0] rfl) (R_cond_45_run (fun _ _ _ _ _ q1 q3 => ih q1 q3) hL h))
          · refine ai (r_if_eq_f (pc := 37) 44 (by decide +kernel : decode k_R_cond.2.1 37 = .ok (.ifCond .eq (7), 3)) (by decide) c16) ?_
            exact (ai (r_sub [1, 0] rfl) (R_cond_40_run (fun _ _ _ _ _ q1 q3 => ih q1 q3) hL h))
        · refine ai (r_if_ne_t (pc := 28) (tgt := 40) (by decide +kernel : decode k_R_cond.2.1 28 = .ok (.ifCond .ne (12), 3)) (by decide) c11) ?_
          exact (ai (r_sub [1, 0] rfl) (R_cond_40_run (fun _ _ _ _ _ q1 q3 => ih q1 q3) hL h))
      · refine ai (r_if_ne_t (pc := 12) (tgt := 57) (by decide +kernel : decode k_R_cond.2.1 12 = .ok (.ifCond .ne (45), 3)) (by decide) c2) ?_
        cases h
        exact ⟨r_vret rfl (by decide +kernel : decode k_R_cond.2.1 57 = .ok (.return_, 1)), hL⟩
set_option maxRecDepth 100000 in
set_option maxHeartbeats 4000000 in
theorem R_cond_run {m m' : Mem} {r : Unit} (hL : RL m) (h : R_cond m = some (r, m')) : Run k_R_cond 0 [(0, .ref 0)] [] m none m' ∧ RL m' := by
  unfold R_cond at h
  refine ai (r_iconst (pc := 0) (by decide +kernel : decode k_R_cond.2.1 0 = .ok (.iconst 1, 1)) ic_1) ?_
  refine ai (e_istore_n (pc := 1) rfl (by decide +kernel : decode k_R_cond.2.1 1 = .ok (.istore_n 1, 1)) rfl (by decide) rfl) ?_
  refine ai (r_iconst (pc := 2) (by decide +kernel : decode k_R_cond.2.1 2 = .ok (.iconst 1, 1)) ic_1) ?_
  refine ai (e_istore_n (pc := 3) rfl (by decide +kernel : decode k_R_cond.2.1 3 = .ok (.istore_n 2, 1)) rfl (by decide) rfl) ?_
  exact (ai (r_sub [2, 1, 0] rfl) (R_cond_4_run hL h))
set_option maxRecDepth 100000 in
set_option maxHeartbeats 4000000 in
theorem R_tellClass_96_run {k20 : Int32 → Int32 → Int32 → Mem → Option (Unit × Mem)} {x1 : Int32} {x2 : Int32} {x3 : Int32} {m m' : Mem} {r : Unit} (hk20 : ∀ (x1 : Int32) (x2 : Int32) (x3 : Int32) (m : Mem) (r : Unit) (m' : Mem), RL m → k20 x1 x2 x3 m = some (r, m') → Run k_R_tellClass 20 [(0, .ref 0), (1, .int x1), (2, .int x2), (3, .int x3)] [] m none m' ∧ RL m') (hL : RL m) (h : R_tellClass_96 k20 x1 x2 x3 m = some (r, m')) : Run k_R_tellClass 96 [(0, .ref 0), (1, .int x1), (2, .int x2), (3, .int x3)] [] m none m' ∧ RL m' := by
  unfold R_tellClass_96 at h
  refine ai (r_goto (pc := 96) (tgt := 20) (by decide +kernel : decode k_R_tellClass.2.1 96 = .ok (.goto (-76), 3)) (by decide)) ?_
  exact (hk20 x1 x2 x3 m _ _ hL h)
set_option maxRecDepth 100000 in
set_option maxHeartbeats 4000000 in
theorem R_tellClass_79_run {k20 : Int32 → Int32 → Int32 → Mem → Option (Unit × Mem)} {x1 : Int32} {x2 : Int32} {m m' : Mem} {r : Unit} (hk20 : ∀ (x1 : Int32) (x2 : Int32) (x3 : Int32) (m : Mem) (r : Unit) (m' : Mem), RL m → k20 x1 x2 x3 m = some (r, m') → Run k_R_tellClass 20 [(0, .ref 0), (1, .int x1), (2, .int x2), (3, .int x3)] [] m none m' ∧ RL m') (hL : RL m) (h : R_tellClass_79 k20 x1 x2 m = some (r, m')) : Run k_R_tellClass 79 [(0, .ref 0), (1, .int x1), (2, .int x2)] [] m none m' ∧ RL m' := by
  unfold R_tellClass_79 at h
  obtain ⟨v1, hv1, h⟩ := vb_some h
  refine ai (e_iinc (pc := 79) (k := 2) hv1 ic_1 (by decide +kernel : decode k_R_tellClass.2.1 79 = .ok (.iinc 2 (1), 3)) rfl (by decide) rfl) ?_
  refine ai (p_aload_n (pc := 82) (k := 1) (by decide +kernel : decode k_R_tellClass.2.1 82 = .ok (.aload_n 0, 1)) rfl rfl) ?_
  refine ai (r_iconst (pc := 83) (by decide +kernel : decode k_R_tellClass.2.1 83 = .ok (.iconst 5, 1)) ic_5) ?_
  obtain ⟨r2, m3, hr2, h⟩ := bn_some h
  have q4 := R_is_run hL hr2
  have c5 := (RC_0 hL).1
  have hL := q4.2
  refine ai (q_callV (pc := 84) (As := [.int 5]) (st := []) (st2 := [.int r2]) (b := 0) rfl rfl (by decide +kernel : decode k_R_tellClass.2.1 84 = .ok (.invokevirtual 332, 3)) lc_12_332 mo_R_is ⟨Nat.le_of_ble_eq_true rfl, Nat.le_of_ble_eq_true rfl⟩ (Nat.le_of_ble_eq_true rfl) (Nat.le_of_ble_eq_true rfl) c5 q4.1) ?_
  refine ai (e_istore_n (pc := 87) rfl (by decide +kernel : decode k_R_tellClass.2.1 87 = .ok (.istore_n 3, 1)) rfl (by decide) rfl) ?_
  refine ai (r_iload_n (pc := 88) (k := 0) (by decide +kernel : decode k_R_tellClass.2.1 88 = .ok (.iload_n 3, 1)) rfl rfl) ?_
  rcases ite_some h with ⟨c6, h⟩ | ⟨c6, h⟩
  · refine ai (r_if_eq_t (pc := 89) (tgt := 96) (by decide +kernel : decode k_R_tellClass.2.1 89 = .ok (.ifCond .eq (7), 3)) (by decide) c6) ?_
    exact (ai (r_sub [2, 3, 1, 0] rfl) (R_tellClass_96_run hk20 hL h))
  · refine ai (r_if_eq_f (pc := 89) 96 (by decide +kernel : decode k_R_tellClass.2.1 89 = .ok (.ifCond .eq (7), 3)) (by decide) c6) ?_
    refine ai (p_aload_n (pc := 92) (k := 2) (by decide +kernel : decode k_R_tellClass.2.1 92 = .ok (.aload_n 0, 1)) rfl rfl) ?_
    obtain ⟨r7, m8, hr7, h⟩ := bn_some h
    have q9 := R_next_run hL hr7
    have c10 := (RC_0 hL).1
    have hL := q9.2
    refine ai (q_callV (pc := 93) (As := []) (st := []) (st2 := []) (b := 0) rfl rfl (by decide +kernel : decode k_R_tellClass.2.1 93 = .ok (.invokevirtual 335, 3)) lc_12_335 mo_R_next ⟨Nat.le_of_ble_eq_true rfl, Nat.le_of_ble_eq_true rfl⟩ (Nat.le_of_ble_eq_true rfl) (Nat.le_of_ble_eq_true rfl) c10 q9.1) ?_
    exact (ai (r_sub [2, 3, 1, 0] rfl) (R_tellClass_96_run hk20 hL h))
set_option maxRecDepth 100000 in
set_option maxHeartbeats 4000000 in
theorem R_tellClass_50_run {k20 : Int32 → Int32 → Int32 → Mem → Option (Unit × Mem)} {x1 : Int32} {x2 : Int32} {m m' : Mem} {r : Unit} (hk20 : ∀ (x1 : Int32) (x2 : Int32) (x3 : Int32) (m : Mem) (r : Unit) (m' : Mem), RL m → k20 x1 x2 x3 m = some (r, m') → Run k_R_tellClass 20 [(0, .ref 0), (1, .int x1), (2, .int x2), (3, .int x3)] [] m none m' ∧ RL m') (hL : RL m) (h : R_tellClass_50 k20 x1 x2 m = some (r, m')) : Run k_R_tellClass 50 [(0, .ref 0), (1, .int x1), (2, .int x2)] [] m none m' ∧ RL m' := by
  unfold R_tellClass_50 at h
  refine ai (p_aload_n (pc := 50) (k := 0) (by decide +kernel : decode k_R_tellClass.2.1 50 = .ok (.aload_n 0, 1)) rfl rfl) ?_
  refine ai (r_iconst (pc := 51) (by decide +kernel : decode k_R_tellClass.2.1 51 = .ok (.iconst 0, 1)) ic_0) ?_
  refine ai (r_bipush (pc := 52) (by decide +kernel : decode k_R_tellClass.2.1 52 = .ok (.bipush (15), 2)) (by decide : _ = (15 : Int32))) ?_
  obtain ⟨r1, m2, hr1, h⟩ := bn_some h
  have q3 := R_number_run hL hr1
  have c4 := (RC_0 hL).1
  have hL := q3.2
  refine ai (q_callV (pc := 54) (As := [.int 0, .int 15]) (st := []) (st2 := [.int r1]) (b := 0) rfl rfl (by decide +kernel : decode k_R_tellClass.2.1 54 = .ok (.invokevirtual 389, 3)) lc_12_389 mo_R_number ⟨Nat.le_of_ble_eq_true rfl, Nat.le_of_ble_eq_true rfl⟩ (Nat.le_of_ble_eq_true rfl) (Nat.le_of_ble_eq_true rfl) c4 q3.1) ?_
  refine ai (e_istore (pc := 57) rfl (by decide +kernel : decode k_R_tellClass.2.1 57 = .ok (.istore 4, 2)) (by decide) rfl) ?_
  refine ai (r_iload (pc := 59) (k := 0) (by decide +kernel : decode k_R_tellClass.2.1 59 = .ok (.iload 4, 2)) rfl) ?_
  refine ai (r_bipush (pc := 61) (by decide +kernel : decode k_R_tellClass.2.1 61 = .ok (.bipush (16), 2)) (by decide : _ = (16 : Int32))) ?_
  rcases ite_some h with ⟨c5, h⟩ | ⟨c5, h⟩
  · refine ai (r_icmp_ge_t (pc := 63) (tgt := 79) (by decide +kernel : decode k_R_tellClass.2.1 63 = .ok (.if_icmp .ge (16), 3)) (by decide) c5) ?_
    exact (ai (r_sub [1, 2, 3] rfl) (R_tellClass_79_run hk20 hL h))
  · refine ai (r_icmp_ge_f (pc := 63) 79 (by decide +kernel : decode k_R_tellClass.2.1 63 = .ok (.if_icmp .ge (16), 3)) (by decide) c5) ?_
    refine ai (p_aload_n (pc := 66) (k := 1) (by decide +kernel : decode k_R_tellClass.2.1 66 = .ok (.aload_n 0, 1)) rfl rfl) ?_
    refine ai (p_getr (pc := 67) (RR_1564_0 hL) (by decide +kernel : decode k_R_tellClass.2.1 67 = .ok (.getfield 67, 3)) lg_12_67 (RC_0 hL).1) ?_
    refine ai (r_iload_n (pc := 70) (k := 2) (by decide +kernel : decode k_R_tellClass.2.1 70 = .ok (.iload_n 1, 1)) rfl rfl) ?_
    refine ai (r_dup2 (pc := 71) (by decide +kernel : decode k_R_tellClass.2.1 71 = .ok (.dup2, 1)) rfl rfl) ?_
    obtain ⟨g6, h⟩ := gd_some h
    refine ai (p_iald (pc := 72) (by decide +kernel : decode k_R_tellClass.2.1 72 = .ok (.iaload, 1)) (RC_17 hL).1 (RC_17 hL).2 g6) ?_
    refine ai (r_iconst (pc := 73) (by decide +kernel : decode k_R_tellClass.2.1 73 = .ok (.iconst 1, 1)) ic_1) ?_
    refine ai (r_iload (pc := 74) (k := 0) (by decide +kernel : decode k_R_tellClass.2.1 74 = .ok (.iload 4, 2)) rfl) ?_
    refine ai (r_ishl (pc := 76) (by decide +kernel : decode k_R_tellClass.2.1 76 = .ok (.ishl, 1))) ?_
    refine ai (r_ior (pc := 77) (by decide +kernel : decode k_R_tellClass.2.1 77 = .ok (.ior, 1))) ?_
    obtain ⟨g7, h⟩ := gd_some h
    have c8 := (RC_17 hL).1
    have c9 := (RC_17 hL).2
    obtain ⟨m10, hm10, h⟩ := vb_some h
    have hL : RL m10 := by rw [hm10]; exact hL
    refine ai (p_iast (pc := 78) hm10 (by decide +kernel : decode k_R_tellClass.2.1 78 = .ok (.iastore, 1)) c8 c9 g7) ?_
    exact (ai (r_sub [1, 2, 3] rfl) (R_tellClass_79_run hk20 hL h))
set_option maxRecDepth 100000 in
set_option maxHeartbeats 4000000 in
theorem R_tellClass_159_run {x1 : Int32} {m m' : Mem} {r : Unit} (hL : RL m) (h : R_tellClass_159 x1 m = some (r, m')) : Run k_R_tellClass 159 [(0, .ref 0), (1, .int x1)] [] m none m' ∧ RL m' := by
  unfold R_tellClass_159 at h
  refine ai (p_aload_n (pc := 159) (k := 0) (by decide +kernel : decode k_R_tellClass.2.1 159 = .ok (.aload_n 0, 1)) rfl rfl) ?_
  refine ai (p_getr (pc := 160) (RR_1568_0 hL) (by decide +kernel : decode k_R_tellClass.2.1 160 = .ok (.getfield 80, 3)) lg_12_80 (RC_0 hL).1) ?_
  refine ai (r_iload_n (pc := 163) (k := 1) (by decide +kernel : decode k_R_tellClass.2.1 163 = .ok (.iload_n 1, 1)) rfl rfl) ?_
  refine ai (p_aload_n (pc := 164) (k := 0) (by decide +kernel : decode k_R_tellClass.2.1 164 = .ok (.aload_n 0, 1)) rfl rfl) ?_
  refine ai (r_getI (pc := 165) (by decide +kernel : decode k_R_tellClass.2.1 165 = .ok (.getfield 356, 3)) lg_12_356 (by decide) (RC_0 hL).1) ?_
  obtain ⟨g1, h⟩ := gd_some h
  have c2 := (RC_21 hL).1
  have c3 := (RC_21 hL).2
  obtain ⟨m4, hm4, h⟩ := vb_some h
  have hL : RL m4 := by rw [hm4]; exact hL
  refine ai (p_iast (pc := 168) hm4 (by decide +kernel : decode k_R_tellClass.2.1 168 = .ok (.iastore, 1)) c2 c3 g1) ?_
  refine ai (p_aload_n (pc := 169) (k := 0) (by decide +kernel : decode k_R_tellClass.2.1 169 = .ok (.aload_n 0, 1)) rfl rfl) ?_
  obtain ⟨r5, m6, hr5, h⟩ := bn_some h
  have q7 := R_expression_run hL hr5
  have c8 := (RC_0 hL).1
  have hL := q7.2
  refine ai (q_callV (pc := 170) (As := []) (st := []) (st2 := []) (b := 0) rfl rfl (by decide +kernel : decode k_R_tellClass.2.1 170 = .ok (.invokevirtual 399, 3)) lc_12_399 mo_R_expression ⟨Nat.le_of_ble_eq_true rfl, Nat.le_of_ble_eq_true rfl⟩ (Nat.le_of_ble_eq_true rfl) (Nat.le_of_ble_eq_true rfl) c8 q7.1) ?_
  refine ai (p_aload_n (pc := 173) (k := 0) (by decide +kernel : decode k_R_tellClass.2.1 173 = .ok (.aload_n 0, 1)) rfl rfl) ?_
  refine ai (p_getr (pc := 174) (RR_1569_0 hL) (by decide +kernel : decode k_R_tellClass.2.1 174 = .ok (.getfield 83, 3)) lg_12_83 (RC_0 hL).1) ?_
  refine ai (r_iload_n (pc := 177) (k := 1) (by decide +kernel : decode k_R_tellClass.2.1 177 = .ok (.iload_n 1, 1)) rfl rfl) ?_
  refine ai (p_aload_n (pc := 178) (k := 0) (by decide +kernel : decode k_R_tellClass.2.1 178 = .ok (.aload_n 0, 1)) rfl rfl) ?_
  refine ai (r_getI (pc := 179) (by decide +kernel : decode k_R_tellClass.2.1 179 = .ok (.getfield 356, 3)) lg_12_356 (by decide) (RC_0 hL).1) ?_
  obtain ⟨g9, h⟩ := gd_some h
  have c10 := (RC_22 hL).1
  have c11 := (RC_22 hL).2
  obtain ⟨m12, hm12, h⟩ := vb_some h
  have hL : RL m12 := by rw [hm12]; exact hL
  refine ai (p_iast (pc := 182) hm12 (by decide +kernel : decode k_R_tellClass.2.1 182 = .ok (.iastore, 1)) c10 c11 g9) ?_
  cases h
  exact ⟨r_vret rfl (by decide +kernel : decode k_R_tellClass.2.1 183 = .ok (.return_, 1)), hL⟩
set_option maxRecDepth 100000 in
set_option maxHeartbeats 4000000 in
theorem R_tellClass_99_run {x1 : Int32} {m m' : Mem} {r : Unit} (hL : RL m) (h : R_tellClass_99 x1 m = some (r, m')) : Run k_R_tellClass 99 [(0, .ref 0), (1, .int x1)] [] m none m' ∧ RL m' := by
  unfold R_tellClass_99 at h
  refine ai (p_aload_n (pc := 99) (k := 0) (by decide +kernel : decode k_R_tellClass.2.1 99 = .ok (.aload_n 0, 1)) rfl rfl) ?_
  refine ai (p_getr (pc := 100) (RR_1565_0 hL) (by decide +kernel : decode k_R_tellClass.2.1 100 = .ok (.getfield 70, 3)) lg_12_70 (RC_0 hL).1) ?_
  refine ai (r_iload_n (pc := 103) (k := 1) (by decide +kernel : decode k_R_tellClass.2.1 103 = .ok (.iload_n 1, 1)) rfl rfl) ?_
  refine ai (p_aload_n (pc := 104) (k := 0) (by decide +kernel : decode k_R_tellClass.2.1 104 = .ok (.aload_n 0, 1)) rfl rfl) ?_
  refine ai (r_bipush (pc := 105) (by decide +kernel : decode k_R_tellClass.2.1 105 = .ok (.bipush (32), 2)) (by decide : _ = (32 : Int32))) ?_
  obtain ⟨r1, m2, hr1, h⟩ := bn_some h
  have q3 := R_is_run hL hr1
  have c4 := (RC_0 hL).1
  have hL := q3.2
  refine ai (q_callV (pc := 107) (As := [.int 32]) (st := [.int x1, .ref 18]) (st2 := [.int r1, .int x1, .ref 18]) (b := 0) rfl rfl (by decide +kernel : decode k_R_tellClass.2.1 107 = .ok (.invokevirtual 332, 3)) lc_12_332 mo_R_is ⟨Nat.le_of_ble_eq_true rfl, Nat.le_of_ble_eq_true rfl⟩ (Nat.le_of_ble_eq_true rfl) (Nat.le_of_ble_eq_true rfl) c4 q3.1) ?_
  obtain ⟨g5, h⟩ := gd_some h
  obtain ⟨z6, h⟩ := gz_some h
  have c7 := (RC_18 hL).1
  have c8 := (RC_18 hL).2
  obtain ⟨m9, hm9, h⟩ := vb_some h
  have hL : RL m9 := by rw [hm9]; exact hL
  refine ai (p_zast (pc := 110) hm9 z6 (by decide +kernel : decode k_R_tellClass.2.1 110 = .ok (.bastore, 1)) c7 c8 g5) ?_
  refine ai (p_aload_n (pc := 111) (k := 0) (by decide +kernel : decode k_R_tellClass.2.1 111 = .ok (.aload_n 0, 1)) rfl rfl) ?_
  refine ai (r_bipush (pc := 112) (by decide +kernel : decode k_R_tellClass.2.1 112 = .ok (.bipush (32), 2)) (by decide : _ = (32 : Int32))) ?_
  obtain ⟨r10, m11, hr10, h⟩ := bn_some h
  have q12 := R_is_run hL hr10
  have c13 := (RC_0 hL).1
  have hL := q12.2
  refine ai (q_callV (pc := 114) (As := [.int 32]) (st := []) (st2 := [.int r10]) (b := 0) rfl rfl (by decide +kernel : decode k_R_tellClass.2.1 114 = .ok (.invokevirtual 332, 3)) lc_12_332 mo_R_is ⟨Nat.le_of_ble_eq_true rfl, Nat.le_of_ble_eq_true rfl⟩ (Nat.le_of_ble_eq_true rfl) (Nat.le_of_ble_eq_true rfl) c13 q12.1) ?_
  rcases ite_some h with ⟨c14, h⟩ | ⟨c14, h⟩
  · refine ai (r_if_eq_t (pc := 117) (tgt := 153) (by decide +kernel : decode k_R_tellClass.2.1 117 = .ok (.ifCond .eq (36), 3)) (by decide) c14) ?_
    refine ai (p_aload_n (pc := 153) (k := 0) (by decide +kernel : decode k_R_tellClass.2.1 153 = .ok (.aload_n 0, 1)) rfl rfl) ?_
    refine ai (r_bipush (pc := 154) (by decide +kernel : decode k_R_tellClass.2.1 154 = .ok (.bipush (31), 2)) (by decide : _ = (31 : Int32))) ?_
    obtain ⟨r15, m16, hr15, h⟩ := bn_some h
    have q17 := R_must_run hL hr15
    have c18 := (RC_0 hL).1
    have hL := q17.2
    refine ai (q_callV (pc := 156) (As := [.int 31]) (st := []) (st2 := []) (b := 0) rfl rfl (by decide +kernel : decode k_R_tellClass.2.1 156 = .ok (.invokevirtual 382, 3)) lc_12_382 mo_R_must ⟨Nat.le_of_ble_eq_true rfl, Nat.le_of_ble_eq_true rfl⟩ (Nat.le_of_ble_eq_true rfl) (Nat.le_of_ble_eq_true rfl) c18 q17.1) ?_
    exact (R_tellClass_159_run hL h)
  · refine ai (r_if_eq_f (pc := 117) 153 (by decide +kernel : decode k_R_tellClass.2.1 117 = .ok (.ifCond .eq (36), 3)) (by decide) c14) ?_
    refine ai (p_aload_n (pc := 120) (k := 0) (by decide +kernel : decode k_R_tellClass.2.1 120 = .ok (.aload_n 0, 1)) rfl rfl) ?_
    obtain ⟨r19, m20, hr19, h⟩ := bn_some h
    have q21 := R_next_run hL hr19
    have c22 := (RC_0 hL).1
    have hL := q21.2
    refine ai (q_callV (pc := 121) (As := []) (st := []) (st2 := []) (b := 0) rfl rfl (by decide +kernel : decode k_R_tellClass.2.1 121 = .ok (.invokevirtual 335, 3)) lc_12_335 mo_R_next ⟨Nat.le_of_ble_eq_true rfl, Nat.le_of_ble_eq_true rfl⟩ (Nat.le_of_ble_eq_true rfl) (Nat.le_of_ble_eq_true rfl) c22 q21.1) ?_
    refine ai (p_aload_n (pc := 124) (k := 0) (by decide +kernel : decode k_R_tellClass.2.1 124 = .ok (.aload_n 0, 1)) rfl rfl) ?_
    refine ai (p_getr (pc := 125) (RR_1566_0 hL) (by decide +kernel : decode k_R_tellClass.2.1 125 = .ok (.getfield 74, 3)) lg_12_74 (RC_0 hL).1) ?_
    refine ai (r_iload_n (pc := 128) (k := 1) (by decide +kernel : decode k_R_tellClass.2.1 128 = .ok (.iload_n 1, 1)) rfl rfl) ?_
    refine ai (p_aload_n (pc := 129) (k := 0) (by decide +kernel : decode k_R_tellClass.2.1 129 = .ok (.aload_n 0, 1)) rfl rfl) ?_
    obtain ⟨r23, m24, hr23, h⟩ := bn_some h
    have q25 := R_name_run hL hr23
    have c26 := (RC_0 hL).1
    have hL := q25.2
    refine ai (q_callV (pc := 130) (As := []) (st := [.int x1, .ref 19]) (st2 := [.int r23, .int x1, .ref 19]) (b := 0) rfl rfl (by decide +kernel : decode k_R_tellClass.2.1 130 = .ok (.invokevirtual 385, 3)) lc_12_385 mo_R_name ⟨Nat.le_of_ble_eq_true rfl, Nat.le_of_ble_eq_true rfl⟩ (Nat.le_of_ble_eq_true rfl) (Nat.le_of_ble_eq_true rfl) c26 q25.1) ?_
    obtain ⟨g27, h⟩ := gd_some h
    have c28 := (RC_19 hL).1
    have c29 := (RC_19 hL).2
    obtain ⟨m30, hm30, h⟩ := vb_some h
    have hL : RL m30 := by rw [hm30]; exact hL
    refine ai (p_iast (pc := 133) hm30 (by decide +kernel : decode k_R_tellClass.2.1 133 = .ok (.iastore, 1)) c28 c29 g27) ?_
    refine ai (p_aload_n (pc := 134) (k := 0) (by decide +kernel : decode k_R_tellClass.2.1 134 = .ok (.aload_n 0, 1)) rfl rfl) ?_
    refine ai (p_getr (pc := 135) (RR_1567_0 hL) (by decide +kernel : decode k_R_tellClass.2.1 135 = .ok (.getfield 77, 3)) lg_12_77 (RC_0 hL).1) ?_
    refine ai (r_iload_n (pc := 138) (k := 1) (by decide +kernel : decode k_R_tellClass.2.1 138 = .ok (.iload_n 1, 1)) rfl rfl) ?_
    refine ai (p_aload_n (pc := 139) (k := 0) (by decide +kernel : decode k_R_tellClass.2.1 139 = .ok (.aload_n 0, 1)) rfl rfl) ?_
    obtain ⟨r31, m32, hr31, h⟩ := bn_some h
    have q33 := R_name_run hL hr31
    have c34 := (RC_0 hL).1
    have hL := q33.2
    refine ai (q_callV (pc := 140) (As := []) (st := [.int x1, .ref 20]) (st2 := [.int r31, .int x1, .ref 20]) (b := 0) rfl rfl (by decide +kernel : decode k_R_tellClass.2.1 140 = .ok (.invokevirtual 385, 3)) lc_12_385 mo_R_name ⟨Nat.le_of_ble_eq_true rfl, Nat.le_of_ble_eq_true rfl⟩ (Nat.le_of_ble_eq_true rfl) (Nat.le_of_ble_eq_true rfl) c34 q33.1) ?_
    obtain ⟨g35, h⟩ := gd_some h
    have c36 := (RC_20 hL).1
    have c37 := (RC_20 hL).2
    obtain ⟨m38, hm38, h⟩ := vb_some h
    have hL : RL m38 := by rw [hm38]; exact hL
    refine ai (p_iast (pc := 143) hm38 (by decide +kernel : decode k_R_tellClass.2.1 143 = .ok (.iastore, 1)) c36 c37 g35) ?_
    refine ai (p_aload_n (pc := 144) (k := 0) (by decide +kernel : decode k_R_tellClass.2.1 144 = .ok (.aload_n 0, 1)) rfl rfl) ?_
    refine ai (r_bipush (pc := 145) (by decide +kernel : decode k_R_tellClass.2.1 145 = .ok (.bipush (33), 2)) (by decide : _ = (33 : Int32))) ?_
    obtain ⟨r39, m40, hr39, h⟩ := bn_some h
    have q41 := R_must_run hL hr39
    have c42 := (RC_0 hL).1
    have hL := q41.2
    refine ai (q_callV (pc := 147) (As := [.int 33]) (st := []) (st2 := []) (b := 0) rfl rfl (by decide +kernel : decode k_R_tellClass.2.1 147 = .ok (.invokevirtual 382, 3)) lc_12_382 mo_R_must ⟨Nat.le_of_ble_eq_true rfl, Nat.le_of_ble_eq_true rfl⟩ (Nat.le_of_ble_eq_true rfl) (Nat.le_of_ble_eq_true rfl) c42 q41.1) ?_
    refine ai (r_goto (pc := 150) (tgt := 159) (by decide +kernel : decode k_R_tellClass.2.1 150 = .ok (.goto (9), 3)) (by decide)) ?_
    exact (R_tellClass_159_run hL h)
set_option maxRecDepth 100000 in
set_option maxHeartbeats 4000000 in
theorem R_tellClass_20_run {n : Nat} {x1 : Int32} {x2 : Int32} {x3 : Int32} {m m' : Mem} {r : Unit} (hL : RL m) (h : R_tellClass_20 n x1 x2 x3 m = some (r, m')) : Run k_R_tellClass 20 [(0, .ref 0), (1, .int x1), (2, .int x2), (3, .int x3)] [] m none m' ∧ RL m' := by
  induction n generalizing x1 x2 x3 m r m' with
  | zero => exact absurd h (by simp [R_tellClass_20])
  | succ n ih =>
    rw [R_tellClass_20.eq_2] at h
    refine ai (r_iload_n (pc := 20) (k := 3) (by decide +kernel : decode k_R_tellClass.2.1 20 = .ok (.iload_n 3, 1)) rfl rfl) ?_
    rcases ite_some h with ⟨c1, h⟩ | ⟨c1, h⟩
    · refine ai (r_if_eq_t (pc := 21) (tgt := 99) (by decide +kernel : decode k_R_tellClass.2.1 21 = .ok (.ifCond .eq (78), 3)) (by decide) c1) ?_
      exact (ai (r_sub [0, 1] rfl) (R_tellClass_99_run hL h))
    · refine ai (r_if_eq_f (pc := 21) 99 (by decide +kernel : decode k_R_tellClass.2.1 21 = .ok (.ifCond .eq (78), 3)) (by decide) c1) ?_
      refine ai (p_aload_n (pc := 24) (k := 0) (by decide +kernel : decode k_R_tellClass.2.1 24 = .ok (.aload_n 0, 1)) rfl rfl) ?_
      refine ai (r_getI (pc := 25) (by decide +kernel : decode k_R_tellClass.2.1 25 = .ok (.getfield 314, 3)) lg_12_314 (by decide) (RC_0 hL).1) ?_
      rcases ite_some h with ⟨c2, h⟩ | ⟨c2, h⟩
      · refine ai (r_if_ne_f (pc := 28) 99 (by decide +kernel : decode k_R_tellClass.2.1 28 = .ok (.ifCond .ne (71), 3)) (by decide) c2) ?_
        refine ai (p_aload_n (pc := 31) (k := 0) (by decide +kernel : decode k_R_tellClass.2.1 31 = .ok (.aload_n 0, 1)) rfl rfl) ?_
        refine ai (r_iconst (pc := 32) (by decide +kernel : decode k_R_tellClass.2.1 32 = .ok (.iconst 2, 1)) ic_2) ?_
        obtain ⟨r3, m4, hr3, h⟩ := bn_some h
        have q5 := R_is_run hL hr3
        have c6 := (RC_0 hL).1
        have hL := q5.2
        refine ai (q_callV (pc := 33) (As := [.int 2]) (st := []) (st2 := [.int r3]) (b := 0) rfl rfl (by decide +kernel : decode k_R_tellClass.2.1 33 = .ok (.invokevirtual 332, 3)) lc_12_332 mo_R_is ⟨Nat.le_of_ble_eq_true rfl, Nat.le_of_ble_eq_true rfl⟩ (Nat.le_of_ble_eq_true rfl) (Nat.le_of_ble_eq_true rfl) c6 q5.1) ?_
        rcases ite_some h with ⟨c7, h⟩ | ⟨c7, h⟩
        · refine ai (r_if_eq_t (pc := 36) (tgt := 50) (by decide +kernel : decode k_R_tellClass.2.1 36 = .ok (.ifCond .eq (14), 3)) (by decide) c7) ?_
          exact (ai (r_sub [0, 1, 2] rfl) (R_tellClass_50_run (fun _ _ _ _ _ _ q1 q3 => ih q1 q3) hL h))
        · refine ai (r_if_eq_f (pc := 36) 50 (by decide +kernel : decode k_R_tellClass.2.1 36 = .ok (.ifCond .eq (14), 3)) (by decide) c7) ?_
          refine ai (r_iload_n (pc := 39) (k := 2) (by decide +kernel : decode k_R_tellClass.2.1 39 = .ok (.iload_n 2, 1)) rfl rfl) ?_
          refine ai (r_bipush (pc := 40) (by decide +kernel : decode k_R_tellClass.2.1 40 = .ok (.bipush (8), 2)) (by decide : _ = (8 : Int32))) ?_
          rcases ite_some h with ⟨c8, h⟩ | ⟨c8, h⟩
          · refine ai (r_icmp_ne_f (pc := 42) 50 (by decide +kernel : decode k_R_tellClass.2.1 42 = .ok (.if_icmp .ne (8), 3)) (by decide) c8) ?_
            refine ai (p_aload_n (pc := 45) (k := 0) (by decide +kernel : decode k_R_tellClass.2.1 45 = .ok (.aload_n 0, 1)) rfl rfl) ?_
            refine ai (r_iconst (pc := 46) (by decide +kernel : decode k_R_tellClass.2.1 46 = .ok (.iconst 2, 1)) ic_2) ?_
            obtain ⟨r9, m10, hr9, h⟩ := bn_some h
            have q11 := R_fail_run hL hr9
            have c12 := (RC_0 hL).1
            have hL := q11.2
            refine ai (q_callV (pc := 47) (As := [.int 2]) (st := []) (st2 := []) (b := 0) rfl rfl (by decide +kernel : decode k_R_tellClass.2.1 47 = .ok (.invokevirtual 329, 3)) lc_12_329 mo_R_fail ⟨Nat.le_of_ble_eq_true rfl, Nat.le_of_ble_eq_true rfl⟩ (Nat.le_of_ble_eq_true rfl) (Nat.le_of_ble_eq_true rfl) c12 q11.1) ?_
            exact (ai (r_sub [0, 1, 2] rfl) (R_tellClass_50_run (fun _ _ _ _ _ _ q1 q3 => ih q1 q3) hL h))
          · refine ai (r_icmp_ne_t (pc := 42) (tgt := 50) (by decide +kernel : decode k_R_tellClass.2.1 42 = .ok (.if_icmp .ne (8), 3)) (by decide) c8) ?_
            exact (ai (r_sub [0, 1, 2] rfl) (R_tellClass_50_run (fun _ _ _ _ _ _ q1 q3 => ih q1 q3) hL h))
      · refine ai (r_if_ne_t (pc := 28) (tgt := 99) (by decide +kernel : decode k_R_tellClass.2.1 28 = .ok (.ifCond .ne (71), 3)) (by decide) c2) ?_
        exact (ai (r_sub [0, 1] rfl) (R_tellClass_99_run hL h))
set_option maxRecDepth 100000 in
set_option maxHeartbeats 4000000 in
theorem R_tellClass_run {x1 : Int32} {m m' : Mem} {r : Unit} (hL : RL m) (h : R_tellClass x1 m = some (r, m')) : Run k_R_tellClass 0 [(0, .ref 0), (1, .int x1)] [] m none m' ∧ RL m' := by
  unfold R_tellClass at h
  refine ai (p_aload_n (pc := 0) (k := 0) (by decide +kernel : decode k_R_tellClass.2.1 0 = .ok (.aload_n 0, 1)) rfl rfl) ?_
  refine ai (p_getr (pc := 1) (RR_1563_0 hL) (by decide +kernel : decode k_R_tellClass.2.1 1 = .ok (.getfield 64, 3)) lg_12_64 (RC_0 hL).1) ?_
  refine ai (r_iload_n (pc := 4) (k := 1) (by decide +kernel : decode k_R_tellClass.2.1 4 = .ok (.iload_n 1, 1)) rfl rfl) ?_
  refine ai (p_aload_n (pc := 5) (k := 0) (by decide +kernel : decode k_R_tellClass.2.1 5 = .ok (.aload_n 0, 1)) rfl rfl) ?_
  obtain ⟨r1, m2, hr1, h⟩ := bn_some h
  have q3 := R_name_run hL hr1
  have c4 := (RC_0 hL).1
  have hL := q3.2
  refine ai (q_callV (pc := 6) (As := []) (st := [.int x1, .ref 16]) (st2 := [.int r1, .int x1, .ref 16]) (b := 0) rfl rfl (by decide +kernel : decode k_R_tellClass.2.1 6 = .ok (.invokevirtual 385, 3)) lc_12_385 mo_R_name ⟨Nat.le_of_ble_eq_true rfl, Nat.le_of_ble_eq_true rfl⟩ (Nat.le_of_ble_eq_true rfl) (Nat.le_of_ble_eq_true rfl) c4 q3.1) ?_
  obtain ⟨g5, h⟩ := gd_some h
  have c6 := (RC_16 hL).1
  have c7 := (RC_16 hL).2
  obtain ⟨m8, hm8, h⟩ := vb_some h
  have hL : RL m8 := by rw [hm8]; exact hL
  refine ai (p_iast (pc := 9) hm8 (by decide +kernel : decode k_R_tellClass.2.1 9 = .ok (.iastore, 1)) c6 c7 g5) ?_
  refine ai (p_aload_n (pc := 10) (k := 0) (by decide +kernel : decode k_R_tellClass.2.1 10 = .ok (.aload_n 0, 1)) rfl rfl) ?_
  refine ai (r_bipush (pc := 11) (by decide +kernel : decode k_R_tellClass.2.1 11 = .ok (.bipush (30), 2)) (by decide : _ = (30 : Int32))) ?_
  obtain ⟨r9, m10, hr9, h⟩ := bn_some h
  have q11 := R_must_run hL hr9
  have c12 := (RC_0 hL).1
  have hL := q11.2
  refine ai (q_callV (pc := 13) (As := [.int 30]) (st := []) (st2 := []) (b := 0) rfl rfl (by decide +kernel : decode k_R_tellClass.2.1 13 = .ok (.invokevirtual 382, 3)) lc_12_382 mo_R_must ⟨Nat.le_of_ble_eq_true rfl, Nat.le_of_ble_eq_true rfl⟩ (Nat.le_of_ble_eq_true rfl) (Nat.le_of_ble_eq_true rfl) c12 q11.1) ?_
  refine ai (r_iconst (pc := 16) (by decide +kernel : decode k_R_tellClass.2.1 16 = .ok (.iconst 0, 1)) ic_0) ?_
  refine ai (e_istore_n (pc := 17) rfl (by decide +kernel : decode k_R_tellClass.2.1 17 = .ok (.istore_n 2, 1)) rfl (by decide) rfl) ?_
  refine ai (r_iconst (pc := 18) (by decide +kernel : decode k_R_tellClass.2.1 18 = .ok (.iconst 1, 1)) ic_1) ?_
  refine ai (e_istore_n (pc := 19) rfl (by decide +kernel : decode k_R_tellClass.2.1 19 = .ok (.istore_n 3, 1)) rfl (by decide) rfl) ?_
  exact (ai (r_sub [2, 3, 1, 0] rfl) (R_tellClass_20_run hL h))
set_option maxRecDepth 100000 in
set_option maxHeartbeats 4000000 in
theorem R_tellLoad_97_run {k61 : Int32 → Mem → Option (Unit × Mem)} {x1 : Int32} {m m' : Mem} {r : Unit} (hk61 : ∀ (x1 : Int32) (m : Mem) (r : Unit) (m' : Mem), RL m → k61 x1 m = some (r, m') → Run k_R_tellLoad 61 [(0, .ref 0), (1, .int x1)] [] m none m' ∧ RL m') (hL : RL m) (h : R_tellLoad_97 k61 x1 m = some (r, m')) : Run k_R_tellLoad 97 [(0, .ref 0), (1, .int x1)] [] m none m' ∧ RL m' := by
  unfold R_tellLoad_97 at h
  refine ai (p_aload_n (pc := 97) (k := 0) (by decide +kernel : decode k_R_tellLoad.2.1 97 = .ok (.aload_n 0, 1)) rfl rfl) ?_
  obtain ⟨r1, m2, hr1, h⟩ := bn_some h
  have q3 := R_name_run hL hr1
  have c4 := (RC_0 hL).1
  have hL := q3.2
  refine ai (q_callV (pc := 98) (As := []) (st := []) (st2 := [.int r1]) (b := 0) rfl rfl (by decide +kernel : decode k_R_tellLoad.2.1 98 = .ok (.invokevirtual 385, 3)) lc_12_385 mo_R_name ⟨Nat.le_of_ble_eq_true rfl, Nat.le_of_ble_eq_true rfl⟩ (Nat.le_of_ble_eq_true rfl) (Nat.le_of_ble_eq_true rfl) c4 q3.1) ?_
  refine ai (e_istore_n (pc := 101) rfl (by decide +kernel : decode k_R_tellLoad.2.1 101 = .ok (.istore_n 2, 1)) rfl (by decide) rfl) ?_
  refine ai (p_aload_n (pc := 102) (k := 1) (by decide +kernel : decode k_R_tellLoad.2.1 102 = .ok (.aload_n 0, 1)) rfl rfl) ?_
  refine ai (r_getI (pc := 103) (by decide +kernel : decode k_R_tellLoad.2.1 103 = .ok (.getfield 314, 3)) lg_12_314 (by decide) (RC_0 hL).1) ?_
  rcases ite_some h with ⟨c5, h⟩ | ⟨c5, h⟩
  · refine ai (r_if_le_t (pc := 106) (tgt := 110) (by decide +kernel : decode k_R_tellLoad.2.1 106 = .ok (.ifCond .le (4), 3)) (by decide) c5) ?_
    refine ai (p_aload_n (pc := 110) (k := 1) (by decide +kernel : decode k_R_tellLoad.2.1 110 = .ok (.aload_n 0, 1)) rfl rfl) ?_
    refine ai (p_getr (pc := 111) (RR_1573_0 hL) (by decide +kernel : decode k_R_tellLoad.2.1 111 = .ok (.getfield 95, 3)) lg_12_95 (RC_0 hL).1) ?_
    refine ai (r_iconst (pc := 114) (by decide +kernel : decode k_R_tellLoad.2.1 114 = .ok (.iconst 4, 1)) ic_4) ?_
    refine ai (r_iload_n (pc := 115) (k := 2) (by decide +kernel : decode k_R_tellLoad.2.1 115 = .ok (.iload_n 1, 1)) rfl rfl) ?_
    refine ai (r_imul (pc := 116) (by decide +kernel : decode k_R_tellLoad.2.1 116 = .ok (.imul, 1))) ?_
    refine ai (p_aload_n (pc := 117) (k := 1) (by decide +kernel : decode k_R_tellLoad.2.1 117 = .ok (.aload_n 0, 1)) rfl rfl) ?_
    refine ai (p_getr (pc := 118) (RR_1572_0 hL) (by decide +kernel : decode k_R_tellLoad.2.1 118 = .ok (.getfield 92, 3)) lg_12_92 (RC_0 hL).1) ?_
    refine ai (r_iload_n (pc := 121) (k := 2) (by decide +kernel : decode k_R_tellLoad.2.1 121 = .ok (.iload_n 1, 1)) rfl rfl) ?_
    obtain ⟨g6, h⟩ := gd_some h
    refine ai (p_iald (pc := 122) (by decide +kernel : decode k_R_tellLoad.2.1 122 = .ok (.iaload, 1)) (RC_25 hL).1 (RC_25 hL).2 g6) ?_
    refine ai (r_iadd (pc := 123) (by decide +kernel : decode k_R_tellLoad.2.1 123 = .ok (.iadd, 1))) ?_
    refine ai (r_iload_n (pc := 124) (k := 0) (by decide +kernel : decode k_R_tellLoad.2.1 124 = .ok (.iload_n 2, 1)) rfl rfl) ?_
    obtain ⟨g7, h⟩ := gd_some h
    have c8 := (RC_26 hL).1
    have c9 := (RC_26 hL).2
    obtain ⟨m10, hm10, h⟩ := vb_some h
    have hL : RL m10 := by rw [hm10]; exact hL
    refine ai (p_iast (pc := 125) hm10 (by decide +kernel : decode k_R_tellLoad.2.1 125 = .ok (.iastore, 1)) c8 c9 g7) ?_
    refine ai (p_aload_n (pc := 126) (k := 1) (by decide +kernel : decode k_R_tellLoad.2.1 126 = .ok (.aload_n 0, 1)) rfl rfl) ?_
    refine ai (p_getr (pc := 127) (RR_1572_0 hL) (by decide +kernel : decode k_R_tellLoad.2.1 127 = .ok (.getfield 92, 3)) lg_12_92 (RC_0 hL).1) ?_
    refine ai (r_iload_n (pc := 130) (k := 2) (by decide +kernel : decode k_R_tellLoad.2.1 130 = .ok (.iload_n 1, 1)) rfl rfl) ?_
    refine ai (r_dup2 (pc := 131) (by decide +kernel : decode k_R_tellLoad.2.1 131 = .ok (.dup2, 1)) rfl rfl) ?_
    obtain ⟨g11, h⟩ := gd_some h
    refine ai (p_iald (pc := 132) (by decide +kernel : decode k_R_tellLoad.2.1 132 = .ok (.iaload, 1)) (RC_25 hL).1 (RC_25 hL).2 g11) ?_
    refine ai (r_iconst (pc := 133) (by decide +kernel : decode k_R_tellLoad.2.1 133 = .ok (.iconst 1, 1)) ic_1) ?_
    refine ai (r_iadd (pc := 134) (by decide +kernel : decode k_R_tellLoad.2.1 134 = .ok (.iadd, 1))) ?_
    obtain ⟨g12, h⟩ := gd_some h
    have c13 := (RC_25 hL).1
    have c14 := (RC_25 hL).2
    obtain ⟨m15, hm15, h⟩ := vb_some h
    have hL : RL m15 := by rw [hm15]; exact hL
    refine ai (p_iast (pc := 135) hm15 (by decide +kernel : decode k_R_tellLoad.2.1 135 = .ok (.iastore, 1)) c13 c14 g12) ?_
    refine ai (r_goto (pc := 136) (tgt := 61) (by decide +kernel : decode k_R_tellLoad.2.1 136 = .ok (.goto (-75), 3)) (by decide)) ?_
    exact (ai (r_sub [1, 2] rfl) (hk61 x1 m15 _ _ hL h))
  · refine ai (r_if_le_f (pc := 106) 110 (by decide +kernel : decode k_R_tellLoad.2.1 106 = .ok (.ifCond .le (4), 3)) (by decide) c5) ?_
    cases h
    exact ⟨r_vret rfl (by decide +kernel : decode k_R_tellLoad.2.1 109 = .ok (.return_, 1)), hL⟩
set_option maxRecDepth 100000 in
set_option maxHeartbeats 4000000 in
theorem R_tellLoad_61_run {n : Nat} {x1 : Int32} {m m' : Mem} {r : Unit} (hL : RL m) (h : R_tellLoad_61 n x1 m = some (r, m')) : Run k_R_tellLoad 61 [(0, .ref 0), (1, .int x1)] [] m none m' ∧ RL m' := by
  induction n generalizing x1 m r m' with
  | zero => exact absurd h (by simp [R_tellLoad_61])
  | succ n ih =>
    rw [R_tellLoad_61.eq_2] at h
    refine ai (p_aload_n (pc := 61) (k := 0) (by decide +kernel : decode k_R_tellLoad.2.1 61 = .ok (.aload_n 0, 1)) rfl rfl) ?_
    refine ai (r_bipush (pc := 62) (by decide +kernel : decode k_R_tellLoad.2.1 62 = .ok (.bipush (40), 2)) (by decide : _ = (40 : Int32))) ?_
    obtain ⟨r1, m2, hr1, h⟩ := bn_some h
    have q3 := R_is_run hL hr1
    have c4 := (RC_0 hL).1
    have hL := q3.2
    refine ai (q_callV (pc := 64) (As := [.int 40]) (st := []) (st2 := [.int r1]) (b := 0) rfl rfl (by decide +kernel : decode k_R_tellLoad.2.1 64 = .ok (.invokevirtual 332, 3)) lc_12_332 mo_R_is ⟨Nat.le_of_ble_eq_true rfl, Nat.le_of_ble_eq_true rfl⟩ (Nat.le_of_ble_eq_true rfl) (Nat.le_of_ble_eq_true rfl) c4 q3.1) ?_
    rcases ite_some h with ⟨c5, h⟩ | ⟨c5, h⟩
    · refine ai (r_if_eq_t (pc := 67) (tgt := 139) (by decide +kernel : decode k_R_tellLoad.2.1 67 = .ok (.ifCond .eq (72), 3)) (by decide) c5) ?_
      cases h
      exact ⟨r_vret rfl (by decide +kernel : decode k_R_tellLoad.2.1 139 = .ok (.return_, 1)), hL⟩
    · refine ai (r_if_eq_f (pc := 67) 139 (by decide +kernel : decode k_R_tellLoad.2.1 67 = .ok (.ifCond .eq (72), 3)) (by decide) c5) ?_
      refine ai (p_aload_n (pc := 70) (k := 0) (by decide +kernel : decode k_R_tellLoad.2.1 70 = .ok (.aload_n 0, 1)) rfl rfl) ?_
      obtain ⟨r6, m7, hr6, h⟩ := bn_some h
      have q8 := R_next_run hL hr6
      have c9 := (RC_0 hL).1
      have hL := q8.2
      refine ai (q_callV (pc := 71) (As := []) (st := []) (st2 := []) (b := 0) rfl rfl (by decide +kernel : decode k_R_tellLoad.2.1 71 = .ok (.invokevirtual 335, 3)) lc_12_335 mo_R_next ⟨Nat.le_of_ble_eq_true rfl, Nat.le_of_ble_eq_true rfl⟩ (Nat.le_of_ble_eq_true rfl) (Nat.le_of_ble_eq_true rfl) c9 q8.1) ?_
      refine ai (p_aload_n (pc := 74) (k := 0) (by decide +kernel : decode k_R_tellLoad.2.1 74 = .ok (.aload_n 0, 1)) rfl rfl) ?_
      refine ai (r_iconst (pc := 75) (by decide +kernel : decode k_R_tellLoad.2.1 75 = .ok (.iconst 1, 1)) ic_1) ?_
      obtain ⟨r10, m11, hr10, h⟩ := bn_some h
      have q12 := R_is_run hL hr10
      have c13 := (RC_0 hL).1
      have hL := q12.2
      refine ai (q_callV (pc := 76) (As := [.int 1]) (st := []) (st2 := [.int r10]) (b := 0) rfl rfl (by decide +kernel : decode k_R_tellLoad.2.1 76 = .ok (.invokevirtual 332, 3)) lc_12_332 mo_R_is ⟨Nat.le_of_ble_eq_true rfl, Nat.le_of_ble_eq_true rfl⟩ (Nat.le_of_ble_eq_true rfl) (Nat.le_of_ble_eq_true rfl) c13 q12.1) ?_
      rcases ite_some h with ⟨c14, h⟩ | ⟨c14, h⟩
      · refine ai (r_if_eq_t (pc := 79) (tgt := 97) (by decide +kernel : decode k_R_tellLoad.2.1 79 = .ok (.ifCond .eq (18), 3)) (by decide) c14) ?_
        exact (R_tellLoad_97_run (fun _ _ _ _ q1 q3 => ih q1 q3) hL h)
      · refine ai (r_if_eq_f (pc := 79) 97 (by decide +kernel : decode k_R_tellLoad.2.1 79 = .ok (.ifCond .eq (18), 3)) (by decide) c14) ?_
        refine ai (p_aload_n (pc := 82) (k := 0) (by decide +kernel : decode k_R_tellLoad.2.1 82 = .ok (.aload_n 0, 1)) rfl rfl) ?_
        refine ai (p_getr (pc := 83) (RR_1572_0 hL) (by decide +kernel : decode k_R_tellLoad.2.1 83 = .ok (.getfield 92, 3)) lg_12_92 (RC_0 hL).1) ?_
        refine ai (r_iload_n (pc := 86) (k := 1) (by decide +kernel : decode k_R_tellLoad.2.1 86 = .ok (.iload_n 1, 1)) rfl rfl) ?_
        obtain ⟨g15, h⟩ := gd_some h
        refine ai (p_iald (pc := 87) (by decide +kernel : decode k_R_tellLoad.2.1 87 = .ok (.iaload, 1)) (RC_25 hL).1 (RC_25 hL).2 g15) ?_
        refine ai (r_iconst (pc := 88) (by decide +kernel : decode k_R_tellLoad.2.1 88 = .ok (.iconst 4, 1)) ic_4) ?_
        rcases ite_some h with ⟨c16, h⟩ | ⟨c16, h⟩
        · refine ai (r_icmp_ne_f (pc := 89) 97 (by decide +kernel : decode k_R_tellLoad.2.1 89 = .ok (.if_icmp .ne (8), 3)) (by decide) c16) ?_
          refine ai (p_aload_n (pc := 92) (k := 0) (by decide +kernel : decode k_R_tellLoad.2.1 92 = .ok (.aload_n 0, 1)) rfl rfl) ?_
          refine ai (r_iconst (pc := 93) (by decide +kernel : decode k_R_tellLoad.2.1 93 = .ok (.iconst 2, 1)) ic_2) ?_
          obtain ⟨r17, m18, hr17, h⟩ := bn_some h
          have q19 := R_fail_run hL hr17
          have c20 := (RC_0 hL).1
          have hL := q19.2
          refine ai (q_callV (pc := 94) (As := [.int 2]) (st := []) (st2 := []) (b := 0) rfl rfl (by decide +kernel : decode k_R_tellLoad.2.1 94 = .ok (.invokevirtual 329, 3)) lc_12_329 mo_R_fail ⟨Nat.le_of_ble_eq_true rfl, Nat.le_of_ble_eq_true rfl⟩ (Nat.le_of_ble_eq_true rfl) (Nat.le_of_ble_eq_true rfl) c20 q19.1) ?_
          exact (R_tellLoad_97_run (fun _ _ _ _ q1 q3 => ih q1 q3) hL h)
        · refine ai (r_icmp_ne_t (pc := 89) (tgt := 97) (by decide +kernel : decode k_R_tellLoad.2.1 89 = .ok (.if_icmp .ne (8), 3)) (by decide) c16) ?_
          exact (R_tellLoad_97_run (fun _ _ _ _ q1 q3 => ih q1 q3) hL h)
set_option maxRecDepth 100000 in
set_option maxHeartbeats 4000000 in
theorem R_tellLoad_run {x1 : Int32} {m m' : Mem} {r : Unit} (hL : RL m) (h : R_tellLoad x1 m = some (r, m')) : Run k_R_tellLoad 0 [(0, .ref 0), (1, .int x1)] [] m none m' ∧ RL m' := by
  unfold R_tellLoad at h
  refine ai (p_aload_n (pc := 0) (k := 0) (by decide +kernel : decode k_R_tellLoad.2.1 0 = .ok (.aload_n 0, 1)) rfl rfl) ?_
  refine ai (p_getr (pc := 1) (RR_1563_0 hL) (by decide +kernel : decode k_R_tellLoad.2.1 1 = .ok (.getfield 64, 3)) lg_12_64 (RC_0 hL).1) ?_
  refine ai (r_iload_n (pc := 4) (k := 1) (by decide +kernel : decode k_R_tellLoad.2.1 4 = .ok (.iload_n 1, 1)) rfl rfl) ?_
  refine ai (p_aload_n (pc := 5) (k := 0) (by decide +kernel : decode k_R_tellLoad.2.1 5 = .ok (.aload_n 0, 1)) rfl rfl) ?_
  obtain ⟨r1, m2, hr1, h⟩ := bn_some h
  have q3 := R_name_run hL hr1
  have c4 := (RC_0 hL).1
  have hL := q3.2
  refine ai (q_callV (pc := 6) (As := []) (st := [.int x1, .ref 16]) (st2 := [.int r1, .int x1, .ref 16]) (b := 0) rfl rfl (by decide +kernel : decode k_R_tellLoad.2.1 6 = .ok (.invokevirtual 385, 3)) lc_12_385 mo_R_name ⟨Nat.le_of_ble_eq_true rfl, Nat.le_of_ble_eq_true rfl⟩ (Nat.le_of_ble_eq_true rfl) (Nat.le_of_ble_eq_true rfl) c4 q3.1) ?_
  obtain ⟨g5, h⟩ := gd_some h
  have c6 := (RC_16 hL).1
  have c7 := (RC_16 hL).2
  obtain ⟨m8, hm8, h⟩ := vb_some h
  have hL : RL m8 := by rw [hm8]; exact hL
  refine ai (p_iast (pc := 9) hm8 (by decide +kernel : decode k_R_tellLoad.2.1 9 = .ok (.iastore, 1)) c6 c7 g5) ?_
  refine ai (p_aload_n (pc := 10) (k := 0) (by decide +kernel : decode k_R_tellLoad.2.1 10 = .ok (.aload_n 0, 1)) rfl rfl) ?_
  refine ai (p_getr (pc := 11) (RR_1568_0 hL) (by decide +kernel : decode k_R_tellLoad.2.1 11 = .ok (.getfield 80, 3)) lg_12_80 (RC_0 hL).1) ?_
  refine ai (r_iload_n (pc := 14) (k := 1) (by decide +kernel : decode k_R_tellLoad.2.1 14 = .ok (.iload_n 1, 1)) rfl rfl) ?_
  refine ai (p_aload_n (pc := 15) (k := 0) (by decide +kernel : decode k_R_tellLoad.2.1 15 = .ok (.aload_n 0, 1)) rfl rfl) ?_
  refine ai (r_getI (pc := 16) (by decide +kernel : decode k_R_tellLoad.2.1 16 = .ok (.getfield 356, 3)) lg_12_356 (by decide) (RC_0 hL).1) ?_
  obtain ⟨g9, h⟩ := gd_some h
  have c10 := (RC_21 hL).1
  have c11 := (RC_21 hL).2
  obtain ⟨m12, hm12, h⟩ := vb_some h
  have hL : RL m12 := by rw [hm12]; exact hL
  refine ai (p_iast (pc := 19) hm12 (by decide +kernel : decode k_R_tellLoad.2.1 19 = .ok (.iastore, 1)) c10 c11 g9) ?_
  refine ai (p_aload_n (pc := 20) (k := 0) (by decide +kernel : decode k_R_tellLoad.2.1 20 = .ok (.aload_n 0, 1)) rfl rfl) ?_
  obtain ⟨r13, m14, hr13, h⟩ := bn_some h
  have q15 := R_expression_run hL hr13
  have c16 := (RC_0 hL).1
  have hL := q15.2
  refine ai (q_callV (pc := 21) (As := []) (st := []) (st2 := []) (b := 0) rfl rfl (by decide +kernel : decode k_R_tellLoad.2.1 21 = .ok (.invokevirtual 399, 3)) lc_12_399 mo_R_expression ⟨Nat.le_of_ble_eq_true rfl, Nat.le_of_ble_eq_true rfl⟩ (Nat.le_of_ble_eq_true rfl) (Nat.le_of_ble_eq_true rfl) c16 q15.1) ?_
  refine ai (p_aload_n (pc := 24) (k := 0) (by decide +kernel : decode k_R_tellLoad.2.1 24 = .ok (.aload_n 0, 1)) rfl rfl) ?_
  refine ai (p_getr (pc := 25) (RR_1569_0 hL) (by decide +kernel : decode k_R_tellLoad.2.1 25 = .ok (.getfield 83, 3)) lg_12_83 (RC_0 hL).1) ?_
  refine ai (r_iload_n (pc := 28) (k := 1) (by decide +kernel : decode k_R_tellLoad.2.1 28 = .ok (.iload_n 1, 1)) rfl rfl) ?_
  refine ai (p_aload_n (pc := 29) (k := 0) (by decide +kernel : decode k_R_tellLoad.2.1 29 = .ok (.aload_n 0, 1)) rfl rfl) ?_
  refine ai (r_getI (pc := 30) (by decide +kernel : decode k_R_tellLoad.2.1 30 = .ok (.getfield 356, 3)) lg_12_356 (by decide) (RC_0 hL).1) ?_
  obtain ⟨g17, h⟩ := gd_some h
  have c18 := (RC_22 hL).1
  have c19 := (RC_22 hL).2
  obtain ⟨m20, hm20, h⟩ := vb_some h
  have hL : RL m20 := by rw [hm20]; exact hL
  refine ai (p_iast (pc := 33) hm20 (by decide +kernel : decode k_R_tellLoad.2.1 33 = .ok (.iastore, 1)) c18 c19 g17) ?_
  refine ai (p_aload_n (pc := 34) (k := 0) (by decide +kernel : decode k_R_tellLoad.2.1 34 = .ok (.aload_n 0, 1)) rfl rfl) ?_
  refine ai (p_getr (pc := 35) (RR_1570_0 hL) (by decide +kernel : decode k_R_tellLoad.2.1 35 = .ok (.getfield 86, 3)) lg_12_86 (RC_0 hL).1) ?_
  refine ai (r_iload_n (pc := 38) (k := 1) (by decide +kernel : decode k_R_tellLoad.2.1 38 = .ok (.iload_n 1, 1)) rfl rfl) ?_
  refine ai (p_aload_n (pc := 39) (k := 0) (by decide +kernel : decode k_R_tellLoad.2.1 39 = .ok (.aload_n 0, 1)) rfl rfl) ?_
  refine ai (r_getI (pc := 40) (by decide +kernel : decode k_R_tellLoad.2.1 40 = .ok (.getfield 353, 3)) lg_12_353 (by decide) (RC_0 hL).1) ?_
  obtain ⟨g21, h⟩ := gd_some h
  have c22 := (RC_23 hL).1
  have c23 := (RC_23 hL).2
  obtain ⟨m24, hm24, h⟩ := vb_some h
  have hL : RL m24 := by rw [hm24]; exact hL
  refine ai (p_iast (pc := 43) hm24 (by decide +kernel : decode k_R_tellLoad.2.1 43 = .ok (.iastore, 1)) c22 c23 g21) ?_
  refine ai (p_aload_n (pc := 44) (k := 0) (by decide +kernel : decode k_R_tellLoad.2.1 44 = .ok (.aload_n 0, 1)) rfl rfl) ?_
  refine ai (r_bipush (pc := 45) (by decide +kernel : decode k_R_tellLoad.2.1 45 = .ok (.bipush (27), 2)) (by decide : _ = (27 : Int32))) ?_
  obtain ⟨r25, m26, hr25, h⟩ := bn_some h
  have q27 := R_is_run hL hr25
  have c28 := (RC_0 hL).1
  have hL := q27.2
  refine ai (q_callV (pc := 47) (As := [.int 27]) (st := []) (st2 := [.int r25]) (b := 0) rfl rfl (by decide +kernel : decode k_R_tellLoad.2.1 47 = .ok (.invokevirtual 332, 3)) lc_12_332 mo_R_is ⟨Nat.le_of_ble_eq_true rfl, Nat.le_of_ble_eq_true rfl⟩ (Nat.le_of_ble_eq_true rfl) (Nat.le_of_ble_eq_true rfl) c28 q27.1) ?_
  rcases ite_some h with ⟨c29, h⟩ | ⟨c29, h⟩
  · refine ai (r_if_eq_t (pc := 50) (tgt := 61) (by decide +kernel : decode k_R_tellLoad.2.1 50 = .ok (.ifCond .eq (11), 3)) (by decide) c29) ?_
    exact (R_tellLoad_61_run hL h)
  · refine ai (r_if_eq_f (pc := 50) 61 (by decide +kernel : decode k_R_tellLoad.2.1 50 = .ok (.ifCond .eq (11), 3)) (by decide) c29) ?_
    refine ai (p_aload_n (pc := 53) (k := 0) (by decide +kernel : decode k_R_tellLoad.2.1 53 = .ok (.aload_n 0, 1)) rfl rfl) ?_
    obtain ⟨r30, m31, hr30, h⟩ := bn_some h
    have q32 := R_next_run hL hr30
    have c33 := (RC_0 hL).1
    have hL := q32.2
    refine ai (q_callV (pc := 54) (As := []) (st := []) (st2 := []) (b := 0) rfl rfl (by decide +kernel : decode k_R_tellLoad.2.1 54 = .ok (.invokevirtual 335, 3)) lc_12_335 mo_R_next ⟨Nat.le_of_ble_eq_true rfl, Nat.le_of_ble_eq_true rfl⟩ (Nat.le_of_ble_eq_true rfl) (Nat.le_of_ble_eq_true rfl) c33 q32.1) ?_
    refine ai (p_aload_n (pc := 57) (k := 0) (by decide +kernel : decode k_R_tellLoad.2.1 57 = .ok (.aload_n 0, 1)) rfl rfl) ?_
    obtain ⟨r34, m35, hr34, h⟩ := bn_some h
    have q36 := R_cond_run hL hr34
    have c37 := (RC_0 hL).1
    have hL := q36.2
    refine ai (q_callV (pc := 58) (As := []) (st := []) (st2 := []) (b := 0) rfl rfl (by decide +kernel : decode k_R_tellLoad.2.1 58 = .ok (.invokevirtual 393, 3)) lc_12_393 mo_R_cond ⟨Nat.le_of_ble_eq_true rfl, Nat.le_of_ble_eq_true rfl⟩ (Nat.le_of_ble_eq_true rfl) (Nat.le_of_ble_eq_true rfl) c37 q36.1) ?_
    exact (R_tellLoad_61_run hL h)
set_option maxRecDepth 100000 in
set_option maxHeartbeats 4000000 in
theorem R_tellItem_501_run {x3 : Int32} {m m' : Mem} {r : Unit} (hL : RL m) (h : R_tellItem_501 x3 m = some (r, m')) : Run k_R_tellItem 501 [(0, .ref 0), (3, .int x3)] [] m none m' ∧ RL m' := by
  unfold R_tellItem_501 at h
  refine ai (p_aload_n (pc := 501) (k := 0) (by decide +kernel : decode k_R_tellItem.2.1 501 = .ok (.aload_n 0, 1)) rfl rfl) ?_
  refine ai (r_iconst (pc := 502) (by decide +kernel : decode k_R_tellItem.2.1 502 = .ok (.iconst 4, 1)) ic_4) ?_
  obtain ⟨r1, m2, hr1, h⟩ := bn_some h
  have q3 := R_must_run hL hr1
  have c4 := (RC_0 hL).1
  have hL := q3.2
  refine ai (q_callV (pc := 503) (As := [.int 4]) (st := []) (st2 := []) (b := 0) rfl rfl (by decide +kernel : decode k_R_tellItem.2.1 503 = .ok (.invokevirtual 382, 3)) lc_12_382 mo_R_must ⟨Nat.le_of_ble_eq_true rfl, Nat.le_of_ble_eq_true rfl⟩ (Nat.le_of_ble_eq_true rfl) (Nat.le_of_ble_eq_true rfl) c4 q3.1) ?_
  refine ai (p_aload_n (pc := 506) (k := 0) (by decide +kernel : decode k_R_tellItem.2.1 506 = .ok (.aload_n 0, 1)) rfl rfl) ?_
  refine ai (p_getr (pc := 507) (RR_1571_0 hL) (by decide +kernel : decode k_R_tellItem.2.1 507 = .ok (.getfield 89, 3)) lg_12_89 (RC_0 hL).1) ?_
  refine ai (r_iload_n (pc := 510) (k := 1) (by decide +kernel : decode k_R_tellItem.2.1 510 = .ok (.iload_n 3, 1)) rfl rfl) ?_
  refine ai (p_aload_n (pc := 511) (k := 0) (by decide +kernel : decode k_R_tellItem.2.1 511 = .ok (.aload_n 0, 1)) rfl rfl) ?_
  refine ai (r_getI (pc := 512) (by decide +kernel : decode k_R_tellItem.2.1 512 = .ok (.getfield 353, 3)) lg_12_353 (by decide) (RC_0 hL).1) ?_
  obtain ⟨g5, h⟩ := gd_some h
  have c6 := (RC_24 hL).1
  have c7 := (RC_24 hL).2
  obtain ⟨m8, hm8, h⟩ := vb_some h
  have hL : RL m8 := by rw [hm8]; exact hL
  refine ai (p_iast (pc := 515) hm8 (by decide +kernel : decode k_R_tellItem.2.1 515 = .ok (.iastore, 1)) c6 c7 g5) ?_
  refine ai (p_aload_n (pc := 516) (k := 0) (by decide +kernel : decode k_R_tellItem.2.1 516 = .ok (.aload_n 0, 1)) rfl rfl) ?_
  refine ai (r_getI (pc := 517) (by decide +kernel : decode k_R_tellItem.2.1 517 = .ok (.getfield 314, 3)) lg_12_314 (by decide) (RC_0 hL).1) ?_
  rcases ite_some h with ⟨c9, h⟩ | ⟨c9, h⟩
  · refine ai (r_if_ne_f (pc := 520) 536 (by decide +kernel : decode k_R_tellItem.2.1 520 = .ok (.ifCond .ne (16), 3)) (by decide) c9) ?_
    refine ai (p_aload_n (pc := 523) (k := 0) (by decide +kernel : decode k_R_tellItem.2.1 523 = .ok (.aload_n 0, 1)) rfl rfl) ?_
    refine ai (p_getr (pc := 524) (RR_1561_0 hL) (by decide +kernel : decode k_R_tellItem.2.1 524 = .ok (.getfield 58, 3)) lg_12_58 (RC_0 hL).1) ?_
    refine ai (p_aload_n (pc := 527) (k := 0) (by decide +kernel : decode k_R_tellItem.2.1 527 = .ok (.aload_n 0, 1)) rfl rfl) ?_
    refine ai (r_getI (pc := 528) (by decide +kernel : decode k_R_tellItem.2.1 528 = .ok (.getfield 350, 3)) lg_12_350 (by decide) (RC_0 hL).1) ?_
    refine ai (r_dup2 (pc := 531) (by decide +kernel : decode k_R_tellItem.2.1 531 = .ok (.dup2, 1)) rfl rfl) ?_
    obtain ⟨g10, h⟩ := gd_some h
    refine ai (p_iald (pc := 532) (by decide +kernel : decode k_R_tellItem.2.1 532 = .ok (.iaload, 1)) (RC_14 hL).1 (RC_14 hL).2 g10) ?_
    refine ai (r_iconst (pc := 533) (by decide +kernel : decode k_R_tellItem.2.1 533 = .ok (.iconst 1, 1)) ic_1) ?_
    refine ai (r_iadd (pc := 534) (by decide +kernel : decode k_R_tellItem.2.1 534 = .ok (.iadd, 1))) ?_
    obtain ⟨g11, h⟩ := gd_some h
    have c12 := (RC_14 hL).1
    have c13 := (RC_14 hL).2
    obtain ⟨m14, hm14, h⟩ := vb_some h
    have hL : RL m14 := by rw [hm14]; exact hL
    refine ai (p_iast (pc := 535) hm14 (by decide +kernel : decode k_R_tellItem.2.1 535 = .ok (.iastore, 1)) c12 c13 g11) ?_
    cases h
    exact ⟨r_vret rfl (by decide +kernel : decode k_R_tellItem.2.1 536 = .ok (.return_, 1)), hL⟩
  · refine ai (r_if_ne_t (pc := 520) (tgt := 536) (by decide +kernel : decode k_R_tellItem.2.1 520 = .ok (.ifCond .ne (16), 3)) (by decide) c9) ?_
    cases h
    exact ⟨r_vret rfl (by decide +kernel : decode k_R_tellItem.2.1 536 = .ok (.return_, 1)), hL⟩
set_option maxRecDepth 100000 in
set_option maxHeartbeats 4000000 in
theorem R_tellItem_431_run {x3 : Int32} {x4 : Int32} {m m' : Mem} {r : Unit} (hL : RL m) (h : R_tellItem_431 x3 x4 m = some (r, m')) : Run k_R_tellItem 431 [(0, .ref 0), (3, .int x3), (4, .int x4)] [] m none m' ∧ RL m' := by
  unfold R_tellItem_431 at h
  refine ai (p_aload_n (pc := 431) (k := 0) (by decide +kernel : decode k_R_tellItem.2.1 431 = .ok (.aload_n 0, 1)) rfl rfl) ?_
  refine ai (p_getr (pc := 432) (RR_1564_0 hL) (by decide +kernel : decode k_R_tellItem.2.1 432 = .ok (.getfield 67, 3)) lg_12_67 (RC_0 hL).1) ?_
  refine ai (r_iload_n (pc := 435) (k := 1) (by decide +kernel : decode k_R_tellItem.2.1 435 = .ok (.iload_n 3, 1)) rfl rfl) ?_
  refine ai (r_iload (pc := 436) (k := 2) (by decide +kernel : decode k_R_tellItem.2.1 436 = .ok (.iload 4, 2)) rfl) ?_
  obtain ⟨g1, h⟩ := gd_some h
  have c2 := (RC_17 hL).1
  have c3 := (RC_17 hL).2
  obtain ⟨m4, hm4, h⟩ := vb_some h
  have hL : RL m4 := by rw [hm4]; exact hL
  refine ai (p_iast (pc := 438) hm4 (by decide +kernel : decode k_R_tellItem.2.1 438 = .ok (.iastore, 1)) c2 c3 g1) ?_
  refine ai (p_aload_n (pc := 439) (k := 0) (by decide +kernel : decode k_R_tellItem.2.1 439 = .ok (.aload_n 0, 1)) rfl rfl) ?_
  obtain ⟨r5, m6, hr5, h⟩ := bn_some h
  have q7 := R_next_run hL hr5
  have c8 := (RC_0 hL).1
  have hL := q7.2
  refine ai (q_callV (pc := 440) (As := []) (st := []) (st2 := []) (b := 0) rfl rfl (by decide +kernel : decode k_R_tellItem.2.1 440 = .ok (.invokevirtual 335, 3)) lc_12_335 mo_R_next ⟨Nat.le_of_ble_eq_true rfl, Nat.le_of_ble_eq_true rfl⟩ (Nat.le_of_ble_eq_true rfl) (Nat.le_of_ble_eq_true rfl) c8 q7.1) ?_
  refine ai (r_goto (pc := 443) (tgt := 501) (by decide +kernel : decode k_R_tellItem.2.1 443 = .ok (.goto (58), 3)) (by decide)) ?_
  exact (ai (r_sub [0, 1] rfl) (R_tellItem_501_run hL h))
set_option maxRecDepth 100000 in
set_option maxHeartbeats 4000000 in
theorem R_tellItem_426_run {x3 : Int32} {x4 : Int32} {m m' : Mem} {r : Unit} (hL : RL m) (h : R_tellItem_426 x3 x4 m = some (r, m')) : Run k_R_tellItem 426 [(0, .ref 0), (3, .int x3), (4, .int x4)] [] m none m' ∧ RL m' := by
  unfold R_tellItem_426 at h
  refine ai (p_aload_n (pc := 426) (k := 0) (by decide +kernel : decode k_R_tellItem.2.1 426 = .ok (.aload_n 0, 1)) rfl rfl) ?_
  refine ai (r_iconst (pc := 427) (by decide +kernel : decode k_R_tellItem.2.1 427 = .ok (.iconst 1, 1)) ic_1) ?_
  obtain ⟨r1, m2, hr1, h⟩ := bn_some h
  have q3 := R_fail_run hL hr1
  have c4 := (RC_0 hL).1
  have hL := q3.2
  refine ai (q_callV (pc := 428) (As := [.int 1]) (st := []) (st2 := []) (b := 0) rfl rfl (by decide +kernel : decode k_R_tellItem.2.1 428 = .ok (.invokevirtual 329, 3)) lc_12_329 mo_R_fail ⟨Nat.le_of_ble_eq_true rfl, Nat.le_of_ble_eq_true rfl⟩ (Nat.le_of_ble_eq_true rfl) (Nat.le_of_ble_eq_true rfl) c4 q3.1) ?_
  exact (R_tellItem_431_run hL h)
set_option maxRecDepth 100000 in
set_option maxHeartbeats 4000000 in
theorem R_tellItem_221_run {x1 : Int32} {m m' : Mem} {r : Unit} (hL : RL m) (h : R_tellItem_221 x1 m = some (r, m')) : Run k_R_tellItem 221 [(0, .ref 0), (1, .int x1)] [] m none m' ∧ RL m' := by
  unfold R_tellItem_221 at h
  refine ai (r_bipush (pc := 221) (by decide +kernel : decode k_R_tellItem.2.1 221 = .ok (.bipush (30), 2)) (by decide : _ = (30 : Int32))) ?_
  refine ai (p_aload_n (pc := 223) (k := 0) (by decide +kernel : decode k_R_tellItem.2.1 223 = .ok (.aload_n 0, 1)) rfl rfl) ?_
  refine ai (r_getI (pc := 224) (by decide +kernel : decode k_R_tellItem.2.1 224 = .ok (.getfield 350, 3)) lg_12_350 (by decide) (RC_0 hL).1) ?_
  refine ai (r_imul (pc := 227) (by decide +kernel : decode k_R_tellItem.2.1 227 = .ok (.imul, 1))) ?_
  refine ai (p_aload_n (pc := 228) (k := 0) (by decide +kernel : decode k_R_tellItem.2.1 228 = .ok (.aload_n 0, 1)) rfl rfl) ?_
  refine ai (p_getr (pc := 229) (RR_1561_0 hL) (by decide +kernel : decode k_R_tellItem.2.1 229 = .ok (.getfield 58, 3)) lg_12_58 (RC_0 hL).1) ?_
  refine ai (p_aload_n (pc := 232) (k := 0) (by decide +kernel : decode k_R_tellItem.2.1 232 = .ok (.aload_n 0, 1)) rfl rfl) ?_
  refine ai (r_getI (pc := 233) (by decide +kernel : decode k_R_tellItem.2.1 233 = .ok (.getfield 350, 3)) lg_12_350 (by decide) (RC_0 hL).1) ?_
  obtain ⟨g1, h⟩ := gd_some h
  refine ai (p_iald (pc := 236) (by decide +kernel : decode k_R_tellItem.2.1 236 = .ok (.iaload, 1)) (RC_14 hL).1 (RC_14 hL).2 g1) ?_
  refine ai (r_iadd (pc := 237) (by decide +kernel : decode k_R_tellItem.2.1 237 = .ok (.iadd, 1))) ?_
  obtain ⟨v2, hv2, h⟩ := vb_some h
  refine ai (e_istore_n (pc := 238) hv2 (by decide +kernel : decode k_R_tellItem.2.1 238 = .ok (.istore_n 3, 1)) rfl (by decide) rfl) ?_
  refine ai (p_aload_n (pc := 239) (k := 1) (by decide +kernel : decode k_R_tellItem.2.1 239 = .ok (.aload_n 0, 1)) rfl rfl) ?_
  refine ai (p_getr (pc := 240) (RR_1562_0 hL) (by decide +kernel : decode k_R_tellItem.2.1 240 = .ok (.getfield 61, 3)) lg_12_61 (RC_0 hL).1) ?_
  refine ai (r_iload_n (pc := 243) (k := 0) (by decide +kernel : decode k_R_tellItem.2.1 243 = .ok (.iload_n 3, 1)) rfl rfl) ?_
  refine ai (r_iload_n (pc := 244) (k := 2) (by decide +kernel : decode k_R_tellItem.2.1 244 = .ok (.iload_n 1, 1)) rfl rfl) ?_
  obtain ⟨g3, h⟩ := gd_some h
  have c4 := (RC_15 hL).1
  have c5 := (RC_15 hL).2
  obtain ⟨m6, hm6, h⟩ := vb_some h
  have hL : RL m6 := by rw [hm6]; exact hL
  refine ai (p_iast (pc := 245) hm6 (by decide +kernel : decode k_R_tellItem.2.1 245 = .ok (.iastore, 1)) c4 c5 g3) ?_
  refine ai (p_aload_n (pc := 246) (k := 1) (by decide +kernel : decode k_R_tellItem.2.1 246 = .ok (.aload_n 0, 1)) rfl rfl) ?_
  refine ai (p_getr (pc := 247) (RR_1563_0 hL) (by decide +kernel : decode k_R_tellItem.2.1 247 = .ok (.getfield 64, 3)) lg_12_64 (RC_0 hL).1) ?_
  refine ai (r_iload_n (pc := 250) (k := 0) (by decide +kernel : decode k_R_tellItem.2.1 250 = .ok (.iload_n 3, 1)) rfl rfl) ?_
  refine ai (r_iconst (pc := 251) (by decide +kernel : decode k_R_tellItem.2.1 251 = .ok (.iconst (-1), 1)) ic_m1) ?_
  obtain ⟨g7, h⟩ := gd_some h
  have c8 := (RC_16 hL).1
  have c9 := (RC_16 hL).2
  obtain ⟨m10, hm10, h⟩ := vb_some h
  have hL : RL m10 := by rw [hm10]; exact hL
  refine ai (p_iast (pc := 252) hm10 (by decide +kernel : decode k_R_tellItem.2.1 252 = .ok (.iastore, 1)) c8 c9 g7) ?_
  refine ai (p_aload_n (pc := 253) (k := 1) (by decide +kernel : decode k_R_tellItem.2.1 253 = .ok (.aload_n 0, 1)) rfl rfl) ?_
  refine ai (p_getr (pc := 254) (RR_1564_0 hL) (by decide +kernel : decode k_R_tellItem.2.1 254 = .ok (.getfield 67, 3)) lg_12_67 (RC_0 hL).1) ?_
  refine ai (r_iload_n (pc := 257) (k := 0) (by decide +kernel : decode k_R_tellItem.2.1 257 = .ok (.iload_n 3, 1)) rfl rfl) ?_
  refine ai (r_iconst (pc := 258) (by decide +kernel : decode k_R_tellItem.2.1 258 = .ok (.iconst 0, 1)) ic_0) ?_
  obtain ⟨g11, h⟩ := gd_some h
  have c12 := (RC_17 hL).1
  have c13 := (RC_17 hL).2
  obtain ⟨m14, hm14, h⟩ := vb_some h
  have hL : RL m14 := by rw [hm14]; exact hL
  refine ai (p_iast (pc := 259) hm14 (by decide +kernel : decode k_R_tellItem.2.1 259 = .ok (.iastore, 1)) c12 c13 g11) ?_
  refine ai (p_aload_n (pc := 260) (k := 1) (by decide +kernel : decode k_R_tellItem.2.1 260 = .ok (.aload_n 0, 1)) rfl rfl) ?_
  refine ai (p_getr (pc := 261) (RR_1565_0 hL) (by decide +kernel : decode k_R_tellItem.2.1 261 = .ok (.getfield 70, 3)) lg_12_70 (RC_0 hL).1) ?_
  refine ai (r_iload_n (pc := 264) (k := 0) (by decide +kernel : decode k_R_tellItem.2.1 264 = .ok (.iload_n 3, 1)) rfl rfl) ?_
  refine ai (r_iconst (pc := 265) (by decide +kernel : decode k_R_tellItem.2.1 265 = .ok (.iconst 0, 1)) ic_0) ?_
  obtain ⟨g15, h⟩ := gd_some h
  have c16 := (RC_18 hL).1
  have c17 := (RC_18 hL).2
  obtain ⟨m18, hm18, h⟩ := vb_some h
  have hL : RL m18 := by rw [hm18]; exact hL
  refine ai (p_zast (pc := 266) hm18 (by decide) (by decide +kernel : decode k_R_tellItem.2.1 266 = .ok (.bastore, 1)) c16 c17 g15) ?_
  refine ai (p_aload_n (pc := 267) (k := 1) (by decide +kernel : decode k_R_tellItem.2.1 267 = .ok (.aload_n 0, 1)) rfl rfl) ?_
  refine ai (p_getr (pc := 268) (RR_1572_0 hL) (by decide +kernel : decode k_R_tellItem.2.1 268 = .ok (.getfield 92, 3)) lg_12_92 (RC_0 hL).1) ?_
  refine ai (r_iload_n (pc := 271) (k := 0) (by decide +kernel : decode k_R_tellItem.2.1 271 = .ok (.iload_n 3, 1)) rfl rfl) ?_
  refine ai (r_iconst (pc := 272) (by decide +kernel : decode k_R_tellItem.2.1 272 = .ok (.iconst 0, 1)) ic_0) ?_
  obtain ⟨g19, h⟩ := gd_some h
  have c20 := (RC_25 hL).1
  have c21 := (RC_25 hL).2
  obtain ⟨m22, hm22, h⟩ := vb_some h
  have hL : RL m22 := by rw [hm22]; exact hL
  refine ai (p_iast (pc := 273) hm22 (by decide +kernel : decode k_R_tellItem.2.1 273 = .ok (.iastore, 1)) c20 c21 g19) ?_
  refine ai (p_aload_n (pc := 274) (k := 1) (by decide +kernel : decode k_R_tellItem.2.1 274 = .ok (.aload_n 0, 1)) rfl rfl) ?_
  refine ai (p_getr (pc := 275) (RR_1568_0 hL) (by decide +kernel : decode k_R_tellItem.2.1 275 = .ok (.getfield 80, 3)) lg_12_80 (RC_0 hL).1) ?_
  refine ai (r_iload_n (pc := 278) (k := 0) (by decide +kernel : decode k_R_tellItem.2.1 278 = .ok (.iload_n 3, 1)) rfl rfl) ?_
  refine ai (p_aload_n (pc := 279) (k := 1) (by decide +kernel : decode k_R_tellItem.2.1 279 = .ok (.aload_n 0, 1)) rfl rfl) ?_
  refine ai (r_getI (pc := 280) (by decide +kernel : decode k_R_tellItem.2.1 280 = .ok (.getfield 356, 3)) lg_12_356 (by decide) (RC_0 hL).1) ?_
  obtain ⟨g23, h⟩ := gd_some h
  have c24 := (RC_21 hL).1
  have c25 := (RC_21 hL).2
  obtain ⟨m26, hm26, h⟩ := vb_some h
  have hL : RL m26 := by rw [hm26]; exact hL
  refine ai (p_iast (pc := 283) hm26 (by decide +kernel : decode k_R_tellItem.2.1 283 = .ok (.iastore, 1)) c24 c25 g23) ?_
  refine ai (p_aload_n (pc := 284) (k := 1) (by decide +kernel : decode k_R_tellItem.2.1 284 = .ok (.aload_n 0, 1)) rfl rfl) ?_
  refine ai (p_getr (pc := 285) (RR_1569_0 hL) (by decide +kernel : decode k_R_tellItem.2.1 285 = .ok (.getfield 83, 3)) lg_12_83 (RC_0 hL).1) ?_
  refine ai (r_iload_n (pc := 288) (k := 0) (by decide +kernel : decode k_R_tellItem.2.1 288 = .ok (.iload_n 3, 1)) rfl rfl) ?_
  refine ai (p_aload_n (pc := 289) (k := 1) (by decide +kernel : decode k_R_tellItem.2.1 289 = .ok (.aload_n 0, 1)) rfl rfl) ?_
  refine ai (r_getI (pc := 290) (by decide +kernel : decode k_R_tellItem.2.1 290 = .ok (.getfield 356, 3)) lg_12_356 (by decide) (RC_0 hL).1) ?_
  obtain ⟨g27, h⟩ := gd_some h
  have c28 := (RC_22 hL).1
  have c29 := (RC_22 hL).2
  obtain ⟨m30, hm30, h⟩ := vb_some h
  have hL : RL m30 := by rw [hm30]; exact hL
  refine ai (p_iast (pc := 293) hm30 (by decide +kernel : decode k_R_tellItem.2.1 293 = .ok (.iastore, 1)) c28 c29 g27) ?_
  refine ai (p_aload_n (pc := 294) (k := 1) (by decide +kernel : decode k_R_tellItem.2.1 294 = .ok (.aload_n 0, 1)) rfl rfl) ?_
  refine ai (p_getr (pc := 295) (RR_1570_0 hL) (by decide +kernel : decode k_R_tellItem.2.1 295 = .ok (.getfield 86, 3)) lg_12_86 (RC_0 hL).1) ?_
  refine ai (r_iload_n (pc := 298) (k := 0) (by decide +kernel : decode k_R_tellItem.2.1 298 = .ok (.iload_n 3, 1)) rfl rfl) ?_
  refine ai (p_aload_n (pc := 299) (k := 1) (by decide +kernel : decode k_R_tellItem.2.1 299 = .ok (.aload_n 0, 1)) rfl rfl) ?_
  refine ai (r_getI (pc := 300) (by decide +kernel : decode k_R_tellItem.2.1 300 = .ok (.getfield 353, 3)) lg_12_353 (by decide) (RC_0 hL).1) ?_
  obtain ⟨g31, h⟩ := gd_some h
  have c32 := (RC_23 hL).1
  have c33 := (RC_23 hL).2
  obtain ⟨m34, hm34, h⟩ := vb_some h
  have hL : RL m34 := by rw [hm34]; exact hL
  refine ai (p_iast (pc := 303) hm34 (by decide +kernel : decode k_R_tellItem.2.1 303 = .ok (.iastore, 1)) c32 c33 g31) ?_
  refine ai (p_aload_n (pc := 304) (k := 1) (by decide +kernel : decode k_R_tellItem.2.1 304 = .ok (.aload_n 0, 1)) rfl rfl) ?_
  obtain ⟨r35, m36, hr35, h⟩ := bn_some h
  have q37 := R_next_run hL hr35
  have c38 := (RC_0 hL).1
  have hL := q37.2
  refine ai (q_callV (pc := 305) (As := []) (st := []) (st2 := []) (b := 0) rfl rfl (by decide +kernel : decode k_R_tellItem.2.1 305 = .ok (.invokevirtual 335, 3)) lc_12_335 mo_R_next ⟨Nat.le_of_ble_eq_true rfl, Nat.le_of_ble_eq_true rfl⟩ (Nat.le_of_ble_eq_true rfl) (Nat.le_of_ble_eq_true rfl) c38 q37.1) ?_
  refine ai (r_iload_n (pc := 308) (k := 2) (by decide +kernel : decode k_R_tellItem.2.1 308 = .ok (.iload_n 1, 1)) rfl rfl) ?_
  rcases ite_some h with ⟨c39, h⟩ | ⟨c39, h⟩
  · refine ai (r_tableIn (pc := 309) (tgt := 360) (off := 51) (by decide +kernel : decode k_R_tellItem.2.1 309 = .ok (.tableswitch (187) (0) (8) #[51, 64, 77, 85, 187, 187, 137, 64, 154], 51)) (by rw [c39]; decide) (by rw [c39]; decide) (by rw [c39]; decide +kernel) (by decide)) ?_
    refine ai (p_aload_n (pc := 360) (k := 1) (by decide +kernel : decode k_R_tellItem.2.1 360 = .ok (.aload_n 0, 1)) rfl rfl) ?_
    refine ai (r_bipush (pc := 361) (by decide +kernel : decode k_R_tellItem.2.1 361 = .ok (.bipush (27), 2)) (by decide : _ = (27 : Int32))) ?_
    obtain ⟨r40, m41, hr40, h⟩ := bn_some h
    have q42 := R_must_run hL hr40
    have c43 := (RC_0 hL).1
    have hL := q42.2
    refine ai (q_callV (pc := 363) (As := [.int 27]) (st := []) (st2 := []) (b := 0) rfl rfl (by decide +kernel : decode k_R_tellItem.2.1 363 = .ok (.invokevirtual 382, 3)) lc_12_382 mo_R_must ⟨Nat.le_of_ble_eq_true rfl, Nat.le_of_ble_eq_true rfl⟩ (Nat.le_of_ble_eq_true rfl) (Nat.le_of_ble_eq_true rfl) c43 q42.1) ?_
    refine ai (p_aload_n (pc := 366) (k := 1) (by decide +kernel : decode k_R_tellItem.2.1 366 = .ok (.aload_n 0, 1)) rfl rfl) ?_
    obtain ⟨r44, m45, hr44, h⟩ := bn_some h
    have q46 := R_cond_run hL hr44
    have c47 := (RC_0 hL).1
    have hL := q46.2
    refine ai (q_callV (pc := 367) (As := []) (st := []) (st2 := []) (b := 0) rfl rfl (by decide +kernel : decode k_R_tellItem.2.1 367 = .ok (.invokevirtual 393, 3)) lc_12_393 mo_R_cond ⟨Nat.le_of_ble_eq_true rfl, Nat.le_of_ble_eq_true rfl⟩ (Nat.le_of_ble_eq_true rfl) (Nat.le_of_ble_eq_true rfl) c47 q46.1) ?_
    refine ai (r_goto (pc := 370) (tgt := 501) (by decide +kernel : decode k_R_tellItem.2.1 370 = .ok (.goto (131), 3)) (by decide)) ?_
    exact (ai (r_sub [1, 0] rfl) (R_tellItem_501_run hL h))
  · skip
    rcases ite_some h with ⟨c48, h⟩ | ⟨c48, h⟩
    · refine ai (r_tableIn (pc := 309) (tgt := 373) (off := 64) (by decide +kernel : decode k_R_tellItem.2.1 309 = .ok (.tableswitch (187) (0) (8) #[51, 64, 77, 85, 187, 187, 137, 64, 154], 51)) (by rw [c48]; decide) (by rw [c48]; decide) (by rw [c48]; decide +kernel) (by decide)) ?_
      refine ai (p_aload_n (pc := 373) (k := 1) (by decide +kernel : decode k_R_tellItem.2.1 373 = .ok (.aload_n 0, 1)) rfl rfl) ?_
      refine ai (p_getr (pc := 374) (RR_1563_0 hL) (by decide +kernel : decode k_R_tellItem.2.1 374 = .ok (.getfield 64, 3)) lg_12_64 (RC_0 hL).1) ?_
      refine ai (r_iload_n (pc := 377) (k := 0) (by decide +kernel : decode k_R_tellItem.2.1 377 = .ok (.iload_n 3, 1)) rfl rfl) ?_
      refine ai (p_aload_n (pc := 378) (k := 1) (by decide +kernel : decode k_R_tellItem.2.1 378 = .ok (.aload_n 0, 1)) rfl rfl) ?_
      obtain ⟨r49, m50, hr49, h⟩ := bn_some h
      have q51 := R_name_run hL hr49
      have c52 := (RC_0 hL).1
      have hL := q51.2
      refine ai (q_callV (pc := 379) (As := []) (st := [.int v2, .ref 16]) (st2 := [.int r49, .int v2, .ref 16]) (b := 0) rfl rfl (by decide +kernel : decode k_R_tellItem.2.1 379 = .ok (.invokevirtual 385, 3)) lc_12_385 mo_R_name ⟨Nat.le_of_ble_eq_true rfl, Nat.le_of_ble_eq_true rfl⟩ (Nat.le_of_ble_eq_true rfl) (Nat.le_of_ble_eq_true rfl) c52 q51.1) ?_
      obtain ⟨g53, h⟩ := gd_some h
      have c54 := (RC_16 hL).1
      have c55 := (RC_16 hL).2
      obtain ⟨m56, hm56, h⟩ := vb_some h
      have hL : RL m56 := by rw [hm56]; exact hL
      refine ai (p_iast (pc := 382) hm56 (by decide +kernel : decode k_R_tellItem.2.1 382 = .ok (.iastore, 1)) c54 c55 g53) ?_
      refine ai (r_goto (pc := 383) (tgt := 501) (by decide +kernel : decode k_R_tellItem.2.1 383 = .ok (.goto (118), 3)) (by decide)) ?_
      exact (ai (r_sub [1, 0] rfl) (R_tellItem_501_run hL h))
    · skip
      rcases ite_some h with ⟨c57, h⟩ | ⟨c57, h⟩
      · refine ai (r_tableIn (pc := 309) (tgt := 386) (off := 77) (by decide +kernel : decode k_R_tellItem.2.1 309 = .ok (.tableswitch (187) (0) (8) #[51, 64, 77, 85, 187, 187, 137, 64, 154], 51)) (by rw [c57]; decide) (by rw [c57]; decide) (by rw [c57]; decide +kernel) (by decide)) ?_
        refine ai (p_aload_n (pc := 386) (k := 1) (by decide +kernel : decode k_R_tellItem.2.1 386 = .ok (.aload_n 0, 1)) rfl rfl) ?_
        refine ai (r_iload_n (pc := 387) (k := 0) (by decide +kernel : decode k_R_tellItem.2.1 387 = .ok (.iload_n 3, 1)) rfl rfl) ?_
        obtain ⟨r58, m59, hr58, h⟩ := bn_some h
        have q60 := R_tellClass_run hL hr58
        have c61 := (RC_0 hL).1
        have hL := q60.2
        refine ai (q_callV (pc := 388) (As := [.int v2]) (st := []) (st2 := []) (b := 0) rfl rfl (by decide +kernel : decode k_R_tellItem.2.1 388 = .ok (.invokevirtual 396, 3)) lc_12_396 mo_R_tellClass ⟨Nat.le_of_ble_eq_true rfl, Nat.le_of_ble_eq_true rfl⟩ (Nat.le_of_ble_eq_true rfl) (Nat.le_of_ble_eq_true rfl) c61 q60.1) ?_
        refine ai (r_goto (pc := 391) (tgt := 501) (by decide +kernel : decode k_R_tellItem.2.1 391 = .ok (.goto (110), 3)) (by decide)) ?_
        exact (ai (r_sub [1, 0] rfl) (R_tellItem_501_run hL h))
      · skip
        rcases ite_some h with ⟨c62, h⟩ | ⟨c62, h⟩
        · refine ai (r_tableIn (pc := 309) (tgt := 394) (off := 85) (by decide +kernel : decode k_R_tellItem.2.1 309 = .ok (.tableswitch (187) (0) (8) #[51, 64, 77, 85, 187, 187, 137, 64, 154], 51)) (by rw [c62]; decide) (by rw [c62]; decide) (by rw [c62]; decide +kernel) (by decide)) ?_
          refine ai (p_aload_n (pc := 394) (k := 1) (by decide +kernel : decode k_R_tellItem.2.1 394 = .ok (.aload_n 0, 1)) rfl rfl) ?_
          refine ai (p_getr (pc := 395) (RR_1541_0 hL) (by decide +kernel : decode k_R_tellItem.2.1 395 = .ok (.getfield 20, 3)) lg_12_20 (RC_0 hL).1) ?_
          refine ai (p_aload_n (pc := 398) (k := 1) (by decide +kernel : decode k_R_tellItem.2.1 398 = .ok (.aload_n 0, 1)) rfl rfl) ?_
          refine ai (r_getI (pc := 399) (by decide +kernel : decode k_R_tellItem.2.1 399 = .ok (.getfield 317, 3)) lg_12_317 (by decide) (RC_0 hL).1) ?_
          obtain ⟨g63, h⟩ := gd_some h
          refine ai (p_iald (pc := 402) (by decide +kernel : decode k_R_tellItem.2.1 402 = .ok (.iaload, 1)) (RC_3 hL).1 (RC_3 hL).2 g63) ?_
          refine ai (r_bipush (pc := 403) (by decide +kernel : decode k_R_tellItem.2.1 403 = .ok (.bipush (35), 2)) (by decide : _ = (35 : Int32))) ?_
          refine ai (r_isub (pc := 405) (by decide +kernel : decode k_R_tellItem.2.1 405 = .ok (.isub, 1))) ?_
          obtain ⟨v64, hv64, h⟩ := vb_some h
          refine ai (e_istore (pc := 406) hv64 (by decide +kernel : decode k_R_tellItem.2.1 406 = .ok (.istore 4, 2)) (by decide) rfl) ?_
          refine ai (p_aload_n (pc := 408) (k := 2) (by decide +kernel : decode k_R_tellItem.2.1 408 = .ok (.aload_n 0, 1)) rfl rfl) ?_
          refine ai (r_getI (pc := 409) (by decide +kernel : decode k_R_tellItem.2.1 409 = .ok (.getfield 314, 3)) lg_12_314 (by decide) (RC_0 hL).1) ?_
          rcases ite_some h with ⟨c65, h⟩ | ⟨c65, h⟩
          · refine ai (r_if_ne_f (pc := 412) 431 (by decide +kernel : decode k_R_tellItem.2.1 412 = .ok (.ifCond .ne (19), 3)) (by decide) c65) ?_
            refine ai (r_iload (pc := 415) (k := 0) (by decide +kernel : decode k_R_tellItem.2.1 415 = .ok (.iload 4, 2)) rfl) ?_
            rcases ite_some h with ⟨c66, h⟩ | ⟨c66, h⟩
            · refine ai (r_if_lt_t (pc := 417) (tgt := 426) (by decide +kernel : decode k_R_tellItem.2.1 417 = .ok (.ifCond .lt (9), 3)) (by decide) c66) ?_
              exact (ai (r_sub [2, 1, 0] rfl) (R_tellItem_426_run hL h))
            · refine ai (r_if_lt_f (pc := 417) 426 (by decide +kernel : decode k_R_tellItem.2.1 417 = .ok (.ifCond .lt (9), 3)) (by decide) c66) ?_
              refine ai (r_iload (pc := 420) (k := 0) (by decide +kernel : decode k_R_tellItem.2.1 420 = .ok (.iload 4, 2)) rfl) ?_
              refine ai (r_iconst (pc := 422) (by decide +kernel : decode k_R_tellItem.2.1 422 = .ok (.iconst 2, 1)) ic_2) ?_
              rcases ite_some h with ⟨c67, h⟩ | ⟨c67, h⟩
              · refine ai (r_icmp_le_t (pc := 423) (tgt := 431) (by decide +kernel : decode k_R_tellItem.2.1 423 = .ok (.if_icmp .le (8), 3)) (by decide) c67) ?_
                exact (ai (r_sub [2, 1, 0] rfl) (R_tellItem_431_run hL h))
              · refine ai (r_icmp_le_f (pc := 423) 431 (by decide +kernel : decode k_R_tellItem.2.1 423 = .ok (.if_icmp .le (8), 3)) (by decide) c67) ?_
                exact (ai (r_sub [2, 1, 0] rfl) (R_tellItem_426_run hL h))
          · refine ai (r_if_ne_t (pc := 412) (tgt := 431) (by decide +kernel : decode k_R_tellItem.2.1 412 = .ok (.ifCond .ne (19), 3)) (by decide) c65) ?_
            exact (ai (r_sub [2, 1, 0] rfl) (R_tellItem_431_run hL h))
        · skip
          rcases ite_some h with ⟨c68, h⟩ | ⟨c68, h⟩
          · refine ai (r_tableIn (pc := 309) (tgt := 496) (off := 187) (by decide +kernel : decode k_R_tellItem.2.1 309 = .ok (.tableswitch (187) (0) (8) #[51, 64, 77, 85, 187, 187, 137, 64, 154], 51)) (by rw [c68]; decide) (by rw [c68]; decide) (by rw [c68]; decide +kernel) (by decide)) ?_
            refine ai (p_aload_n (pc := 496) (k := 1) (by decide +kernel : decode k_R_tellItem.2.1 496 = .ok (.aload_n 0, 1)) rfl rfl) ?_
            refine ai (r_iload_n (pc := 497) (k := 0) (by decide +kernel : decode k_R_tellItem.2.1 497 = .ok (.iload_n 3, 1)) rfl rfl) ?_
            obtain ⟨r69, m70, hr69, h⟩ := bn_some h
            have q71 := R_tellLoad_run hL hr69
            have c72 := (RC_0 hL).1
            have hL := q71.2
            refine ai (q_callV (pc := 498) (As := [.int v2]) (st := []) (st2 := []) (b := 0) rfl rfl (by decide +kernel : decode k_R_tellItem.2.1 498 = .ok (.invokevirtual 402, 3)) lc_12_402 mo_R_tellLoad ⟨Nat.le_of_ble_eq_true rfl, Nat.le_of_ble_eq_true rfl⟩ (Nat.le_of_ble_eq_true rfl) (Nat.le_of_ble_eq_true rfl) c72 q71.1) ?_
            exact (ai (r_sub [1, 0] rfl) (R_tellItem_501_run hL h))
          · skip
            rcases ite_some h with ⟨c73, h⟩ | ⟨c73, h⟩
            · refine ai (r_tableIn (pc := 309) (tgt := 496) (off := 187) (by decide +kernel : decode k_R_tellItem.2.1 309 = .ok (.tableswitch (187) (0) (8) #[51, 64, 77, 85, 187, 187, 137, 64, 154], 51)) (by rw [c73]; decide) (by rw [c73]; decide) (by rw [c73]; decide +kernel) (by decide)) ?_
              refine ai (p_aload_n (pc := 496) (k := 1) (by decide +kernel : decode k_R_tellItem.2.1 496 = .ok (.aload_n 0, 1)) rfl rfl) ?_
              refine ai (r_iload_n (pc := 497) (k := 0) (by decide +kernel : decode k_R_tellItem.2.1 497 = .ok (.iload_n 3, 1)) rfl rfl) ?_
              obtain ⟨r74, m75, hr74, h⟩ := bn_some h
              have q76 := R_tellLoad_run hL hr74
              have c77 := (RC_0 hL).1
              have hL := q76.2
              refine ai (q_callV (pc := 498) (As := [.int v2]) (st := []) (st2 := []) (b := 0) rfl rfl (by decide +kernel : decode k_R_tellItem.2.1 498 = .ok (.invokevirtual 402, 3)) lc_12_402 mo_R_tellLoad ⟨Nat.le_of_ble_eq_true rfl, Nat.le_of_ble_eq_true rfl⟩ (Nat.le_of_ble_eq_true rfl) (Nat.le_of_ble_eq_true rfl) c77 q76.1) ?_
              exact (ai (r_sub [1, 0] rfl) (R_tellItem_501_run hL h))
            · skip
              rcases ite_some h with ⟨c78, h⟩ | ⟨c78, h⟩
              · refine ai (r_tableIn (pc := 309) (tgt := 446) (off := 137) (by decide +kernel : decode k_R_tellItem.2.1 309 = .ok (.tableswitch (187) (0) (8) #[51, 64, 77, 85, 187, 187, 137, 64, 154], 51)) (by rw [c78]; decide) (by rw [c78]; decide) (by rw [c78]; decide +kernel) (by decide)) ?_
                refine ai (p_aload_n (pc := 446) (k := 1) (by decide +kernel : decode k_R_tellItem.2.1 446 = .ok (.aload_n 0, 1)) rfl rfl) ?_
                refine ai (p_getr (pc := 447) (RR_1564_0 hL) (by decide +kernel : decode k_R_tellItem.2.1 447 = .ok (.getfield 67, 3)) lg_12_67 (RC_0 hL).1) ?_
                refine ai (r_iload_n (pc := 450) (k := 0) (by decide +kernel : decode k_R_tellItem.2.1 450 = .ok (.iload_n 3, 1)) rfl rfl) ?_
                refine ai (p_aload_n (pc := 451) (k := 1) (by decide +kernel : decode k_R_tellItem.2.1 451 = .ok (.aload_n 0, 1)) rfl rfl) ?_
                refine ai (r_iconst (pc := 452) (by decide +kernel : decode k_R_tellItem.2.1 452 = .ok (.iconst 1, 1)) ic_1) ?_
                refine ai (r_sipush (pc := 453) (by decide +kernel : decode k_R_tellItem.2.1 453 = .ok (.sipush (240), 3)) (by decide : _ = (240 : Int32))) ?_
                obtain ⟨r79, m80, hr79, h⟩ := bn_some h
                have q81 := R_number_run hL hr79
                have c82 := (RC_0 hL).1
                have hL := q81.2
                refine ai (q_callV (pc := 456) (As := [.int 1, .int 240]) (st := [.int v2, .ref 17]) (st2 := [.int r79, .int v2, .ref 17]) (b := 0) rfl rfl (by decide +kernel : decode k_R_tellItem.2.1 456 = .ok (.invokevirtual 389, 3)) lc_12_389 mo_R_number ⟨Nat.le_of_ble_eq_true rfl, Nat.le_of_ble_eq_true rfl⟩ (Nat.le_of_ble_eq_true rfl) (Nat.le_of_ble_eq_true rfl) c82 q81.1) ?_
                obtain ⟨g83, h⟩ := gd_some h
                have c84 := (RC_17 hL).1
                have c85 := (RC_17 hL).2
                obtain ⟨m86, hm86, h⟩ := vb_some h
                have hL : RL m86 := by rw [hm86]; exact hL
                refine ai (p_iast (pc := 459) hm86 (by decide +kernel : decode k_R_tellItem.2.1 459 = .ok (.iastore, 1)) c84 c85 g83) ?_
                refine ai (r_goto (pc := 460) (tgt := 501) (by decide +kernel : decode k_R_tellItem.2.1 460 = .ok (.goto (41), 3)) (by decide)) ?_
                exact (ai (r_sub [1, 0] rfl) (R_tellItem_501_run hL h))
              · skip
                rcases ite_some h with ⟨c87, h⟩ | ⟨c87, h⟩
                · refine ai (r_tableIn (pc := 309) (tgt := 373) (off := 64) (by decide +kernel : decode k_R_tellItem.2.1 309 = .ok (.tableswitch (187) (0) (8) #[51, 64, 77, 85, 187, 187, 137, 64, 154], 51)) (by rw [c87]; decide) (by rw [c87]; decide) (by rw [c87]; decide +kernel) (by decide)) ?_
                  refine ai (p_aload_n (pc := 373) (k := 1) (by decide +kernel : decode k_R_tellItem.2.1 373 = .ok (.aload_n 0, 1)) rfl rfl) ?_
                  refine ai (p_getr (pc := 374) (RR_1563_0 hL) (by decide +kernel : decode k_R_tellItem.2.1 374 = .ok (.getfield 64, 3)) lg_12_64 (RC_0 hL).1) ?_
                  refine ai (r_iload_n (pc := 377) (k := 0) (by decide +kernel : decode k_R_tellItem.2.1 377 = .ok (.iload_n 3, 1)) rfl rfl) ?_
                  refine ai (p_aload_n (pc := 378) (k := 1) (by decide +kernel : decode k_R_tellItem.2.1 378 = .ok (.aload_n 0, 1)) rfl rfl) ?_
                  obtain ⟨r88, m89, hr88, h⟩ := bn_some h
                  have q90 := R_name_run hL hr88
                  have c91 := (RC_0 hL).1
                  have hL := q90.2
                  refine ai (q_callV (pc := 379) (As := []) (st := [.int v2, .ref 16]) (st2 := [.int r88, .int v2, .ref 16]) (b := 0) rfl rfl (by decide +kernel : decode k_R_tellItem.2.1 379 = .ok (.invokevirtual 385, 3)) lc_12_385 mo_R_name ⟨Nat.le_of_ble_eq_true rfl, Nat.le_of_ble_eq_true rfl⟩ (Nat.le_of_ble_eq_true rfl) (Nat.le_of_ble_eq_true rfl) c91 q90.1) ?_
                  obtain ⟨g92, h⟩ := gd_some h
                  have c93 := (RC_16 hL).1
                  have c94 := (RC_16 hL).2
                  obtain ⟨m95, hm95, h⟩ := vb_some h
                  have hL : RL m95 := by rw [hm95]; exact hL
                  refine ai (p_iast (pc := 382) hm95 (by decide +kernel : decode k_R_tellItem.2.1 382 = .ok (.iastore, 1)) c93 c94 g92) ?_
                  refine ai (r_goto (pc := 383) (tgt := 501) (by decide +kernel : decode k_R_tellItem.2.1 383 = .ok (.goto (118), 3)) (by decide)) ?_
                  exact (ai (r_sub [1, 0] rfl) (R_tellItem_501_run hL h))
                · skip
                  rcases ite_some h with ⟨c96, h⟩ | ⟨c96, h⟩
                  · refine ai (r_tableIn (pc := 309) (tgt := 463) (off := 154) (by decide +kernel : decode k_R_tellItem.2.1 309 = .ok (.tableswitch (187) (0) (8) #[51, 64, 77, 85, 187, 187, 137, 64, 154], 51)) (by rw [c96]; decide) (by rw [c96]; decide) (by rw [c96]; decide +kernel) (by decide)) ?_
                    refine ai (p_aload_n (pc := 463) (k := 1) (by decide +kernel : decode k_R_tellItem.2.1 463 = .ok (.aload_n 0, 1)) rfl rfl) ?_
                    refine ai (p_getr (pc := 464) (RR_1563_0 hL) (by decide +kernel : decode k_R_tellItem.2.1 464 = .ok (.getfield 64, 3)) lg_12_64 (RC_0 hL).1) ?_
                    refine ai (r_iload_n (pc := 467) (k := 0) (by decide +kernel : decode k_R_tellItem.2.1 467 = .ok (.iload_n 3, 1)) rfl rfl) ?_
                    refine ai (p_aload_n (pc := 468) (k := 1) (by decide +kernel : decode k_R_tellItem.2.1 468 = .ok (.aload_n 0, 1)) rfl rfl) ?_
                    obtain ⟨r97, m98, hr97, h⟩ := bn_some h
                    have q99 := R_name_run hL hr97
                    have c100 := (RC_0 hL).1
                    have hL := q99.2
                    refine ai (q_callV (pc := 469) (As := []) (st := [.int v2, .ref 16]) (st2 := [.int r97, .int v2, .ref 16]) (b := 0) rfl rfl (by decide +kernel : decode k_R_tellItem.2.1 469 = .ok (.invokevirtual 385, 3)) lc_12_385 mo_R_name ⟨Nat.le_of_ble_eq_true rfl, Nat.le_of_ble_eq_true rfl⟩ (Nat.le_of_ble_eq_true rfl) (Nat.le_of_ble_eq_true rfl) c100 q99.1) ?_
                    obtain ⟨g101, h⟩ := gd_some h
                    have c102 := (RC_16 hL).1
                    have c103 := (RC_16 hL).2
                    obtain ⟨m104, hm104, h⟩ := vb_some h
                    have hL : RL m104 := by rw [hm104]; exact hL
                    refine ai (p_iast (pc := 472) hm104 (by decide +kernel : decode k_R_tellItem.2.1 472 = .ok (.iastore, 1)) c102 c103 g101) ?_
                    refine ai (p_aload_n (pc := 473) (k := 1) (by decide +kernel : decode k_R_tellItem.2.1 473 = .ok (.aload_n 0, 1)) rfl rfl) ?_
                    refine ai (r_bipush (pc := 474) (by decide +kernel : decode k_R_tellItem.2.1 474 = .ok (.bipush (43), 2)) (by decide : _ = (43 : Int32))) ?_
                    obtain ⟨r105, m106, hr105, h⟩ := bn_some h
                    have q107 := R_must_run hL hr105
                    have c108 := (RC_0 hL).1
                    have hL := q107.2
                    refine ai (q_callV (pc := 476) (As := [.int 43]) (st := []) (st2 := []) (b := 0) rfl rfl (by decide +kernel : decode k_R_tellItem.2.1 476 = .ok (.invokevirtual 382, 3)) lc_12_382 mo_R_must ⟨Nat.le_of_ble_eq_true rfl, Nat.le_of_ble_eq_true rfl⟩ (Nat.le_of_ble_eq_true rfl) (Nat.le_of_ble_eq_true rfl) c108 q107.1) ?_
                    refine ai (p_aload_n (pc := 479) (k := 1) (by decide +kernel : decode k_R_tellItem.2.1 479 = .ok (.aload_n 0, 1)) rfl rfl) ?_
                    obtain ⟨r109, m110, hr109, h⟩ := bn_some h
                    have q111 := R_expression_run hL hr109
                    have c112 := (RC_0 hL).1
                    have hL := q111.2
                    refine ai (q_callV (pc := 480) (As := []) (st := []) (st2 := []) (b := 0) rfl rfl (by decide +kernel : decode k_R_tellItem.2.1 480 = .ok (.invokevirtual 399, 3)) lc_12_399 mo_R_expression ⟨Nat.le_of_ble_eq_true rfl, Nat.le_of_ble_eq_true rfl⟩ (Nat.le_of_ble_eq_true rfl) (Nat.le_of_ble_eq_true rfl) c112 q111.1) ?_
                    refine ai (p_aload_n (pc := 483) (k := 1) (by decide +kernel : decode k_R_tellItem.2.1 483 = .ok (.aload_n 0, 1)) rfl rfl) ?_
                    refine ai (p_getr (pc := 484) (RR_1569_0 hL) (by decide +kernel : decode k_R_tellItem.2.1 484 = .ok (.getfield 83, 3)) lg_12_83 (RC_0 hL).1) ?_
                    refine ai (r_iload_n (pc := 487) (k := 0) (by decide +kernel : decode k_R_tellItem.2.1 487 = .ok (.iload_n 3, 1)) rfl rfl) ?_
                    refine ai (p_aload_n (pc := 488) (k := 1) (by decide +kernel : decode k_R_tellItem.2.1 488 = .ok (.aload_n 0, 1)) rfl rfl) ?_
                    refine ai (r_getI (pc := 489) (by decide +kernel : decode k_R_tellItem.2.1 489 = .ok (.getfield 356, 3)) lg_12_356 (by decide) (RC_0 hL).1) ?_
                    obtain ⟨g113, h⟩ := gd_some h
                    have c114 := (RC_22 hL).1
                    have c115 := (RC_22 hL).2
                    obtain ⟨m116, hm116, h⟩ := vb_some h
                    have hL : RL m116 := by rw [hm116]; exact hL
                    refine ai (p_iast (pc := 492) hm116 (by decide +kernel : decode k_R_tellItem.2.1 492 = .ok (.iastore, 1)) c114 c115 g113) ?_
                    refine ai (r_goto (pc := 493) (tgt := 501) (by decide +kernel : decode k_R_tellItem.2.1 493 = .ok (.goto (8), 3)) (by decide)) ?_
                    exact (ai (r_sub [1, 0] rfl) (R_tellItem_501_run hL h))
                  · skip
                    have ho := tab_out (x := x1) 0 9 (by decide) (by decide) (fun k hk => by
                      rcases (show k = 0 ∨ k = 1 ∨ k = 2 ∨ k = 3 ∨ k = 4 ∨ k = 5 ∨ k = 6 ∨ k = 7 ∨ k = 8 by omega) with rfl | rfl | rfl | rfl | rfl | rfl | rfl | rfl | rfl
                      · exact fun z => c39 (z.trans (by decide))
                      · exact fun z => c48 (z.trans (by decide))
                      · exact fun z => c57 (z.trans (by decide))
                      · exact fun z => c62 (z.trans (by decide))
                      · exact fun z => c68 (z.trans (by decide))
                      · exact fun z => c73 (z.trans (by decide))
                      · exact fun z => c78 (z.trans (by decide))
                      · exact fun z => c87 (z.trans (by decide))
                      · exact fun z => c96 (z.trans (by decide)))
                    refine ai (r_tableOut (pc := 309) (tgt := 496) (by decide +kernel : decode k_R_tellItem.2.1 309 = .ok (.tableswitch (187) (0) (8) #[51, 64, 77, 85, 187, 187, 137, 64, 154], 51)) (by simpa using ho) (by decide)) ?_
                    refine ai (p_aload_n (pc := 496) (k := 1) (by decide +kernel : decode k_R_tellItem.2.1 496 = .ok (.aload_n 0, 1)) rfl rfl) ?_
                    refine ai (r_iload_n (pc := 497) (k := 0) (by decide +kernel : decode k_R_tellItem.2.1 497 = .ok (.iload_n 3, 1)) rfl rfl) ?_
                    obtain ⟨r117, m118, hr117, h⟩ := bn_some h
                    have q119 := R_tellLoad_run hL hr117
                    have c120 := (RC_0 hL).1
                    have hL := q119.2
                    refine ai (q_callV (pc := 498) (As := [.int v2]) (st := []) (st2 := []) (b := 0) rfl rfl (by decide +kernel : decode k_R_tellItem.2.1 498 = .ok (.invokevirtual 402, 3)) lc_12_402 mo_R_tellLoad ⟨Nat.le_of_ble_eq_true rfl, Nat.le_of_ble_eq_true rfl⟩ (Nat.le_of_ble_eq_true rfl) (Nat.le_of_ble_eq_true rfl) c120 q119.1) ?_
                    exact (ai (r_sub [1, 0] rfl) (R_tellItem_501_run hL h))
set_option maxRecDepth 100000 in
set_option maxHeartbeats 4000000 in
theorem R_tellItem_212_run {x1 : Int32} {m m' : Mem} {r : Unit} (hL : RL m) (h : R_tellItem_212 x1 m = some (r, m')) : Run k_R_tellItem 212 [(0, .ref 0), (1, .int x1)] [] m none m' ∧ RL m' := by
  unfold R_tellItem_212 at h
  refine ai (p_aload_n (pc := 212) (k := 0) (by decide +kernel : decode k_R_tellItem.2.1 212 = .ok (.aload_n 0, 1)) rfl rfl) ?_
  refine ai (r_iconst (pc := 213) (by decide +kernel : decode k_R_tellItem.2.1 213 = .ok (.iconst 5, 1)) ic_5) ?_
  refine ai (p_aload_n (pc := 214) (k := 0) (by decide +kernel : decode k_R_tellItem.2.1 214 = .ok (.aload_n 0, 1)) rfl rfl) ?_
  refine ai (r_getI (pc := 215) (by decide +kernel : decode k_R_tellItem.2.1 215 = .ok (.getfield 317, 3)) lg_12_317 (by decide) (RC_0 hL).1) ?_
  obtain ⟨r1, m2, hr1, h⟩ := bn_some h
  have q3 := R_wrong_run hL hr1
  have c4 := (RC_0 hL).1
  have hL := q3.2
  refine ai (q_callV (pc := 218) (As := [.int 5, .int (mI m 1547 0)]) (st := []) (st2 := []) (b := 0) rfl rfl (by decide +kernel : decode k_R_tellItem.2.1 218 = .ok (.invokevirtual 374, 3)) lc_12_374 mo_R_wrong ⟨Nat.le_of_ble_eq_true rfl, Nat.le_of_ble_eq_true rfl⟩ (Nat.le_of_ble_eq_true rfl) (Nat.le_of_ble_eq_true rfl) c4 q3.1) ?_
  exact (R_tellItem_221_run hL h)
set_option maxRecDepth 100000 in
set_option maxHeartbeats 4000000 in
theorem R_tellItem_203_run {x1 : Int32} {x2 : Int32} {m m' : Mem} {r : Unit} (hL : RL m) (h : R_tellItem_203 x1 x2 m = some (r, m')) : Run k_R_tellItem 203 [(0, .ref 0), (1, .int x1), (2, .int x2)] [] m none m' ∧ RL m' := by
  unfold R_tellItem_203 at h
  refine ai (r_iload_n (pc := 203) (k := 2) (by decide +kernel : decode k_R_tellItem.2.1 203 = .ok (.iload_n 2, 1)) rfl rfl) ?_
  rcases ite_some h with ⟨c1, h⟩ | ⟨c1, h⟩
  · refine ai (r_if_ne_f (pc := 204) 221 (by decide +kernel : decode k_R_tellItem.2.1 204 = .ok (.ifCond .ne (17), 3)) (by decide) c1) ?_
    refine ai (r_iload_n (pc := 207) (k := 1) (by decide +kernel : decode k_R_tellItem.2.1 207 = .ok (.iload_n 1, 1)) rfl rfl) ?_
    refine ai (r_iconst (pc := 208) (by decide +kernel : decode k_R_tellItem.2.1 208 = .ok (.iconst 2, 1)) ic_2) ?_
    rcases ite_some h with ⟨c2, h⟩ | ⟨c2, h⟩
    · refine ai (r_icmp_ge_t (pc := 209) (tgt := 221) (by decide +kernel : decode k_R_tellItem.2.1 209 = .ok (.if_icmp .ge (12), 3)) (by decide) c2) ?_
      exact (ai (r_sub [0, 1] rfl) (R_tellItem_221_run hL h))
    · refine ai (r_icmp_ge_f (pc := 209) 221 (by decide +kernel : decode k_R_tellItem.2.1 209 = .ok (.if_icmp .ge (12), 3)) (by decide) c2) ?_
      exact (ai (r_sub [0, 1] rfl) (R_tellItem_212_run hL h))
  · refine ai (r_if_ne_t (pc := 204) (tgt := 221) (by decide +kernel : decode k_R_tellItem.2.1 204 = .ok (.ifCond .ne (17), 3)) (by decide) c1) ?_
    exact (ai (r_sub [0, 1] rfl) (R_tellItem_221_run hL h))
set_option maxRecDepth 100000 in
set_option maxHeartbeats 4000000 in
theorem R_tellItem_192_run {x1 : Int32} {s0 : Int32} {m m' : Mem} {r : Unit} (hL : RL m) (h : R_tellItem_192 x1 s0 m = some (r, m')) : Run k_R_tellItem 192 [(0, .ref 0), (1, .int x1)] [.int s0] m none m' ∧ RL m' := by
  unfold R_tellItem_192 at h
  refine ai (e_istore_n (pc := 192) rfl (by decide +kernel : decode k_R_tellItem.2.1 192 = .ok (.istore_n 2, 1)) rfl (by decide) rfl) ?_
  refine ai (r_iload_n (pc := 193) (k := 0) (by decide +kernel : decode k_R_tellItem.2.1 193 = .ok (.iload_n 2, 1)) rfl rfl) ?_
  rcases ite_some h with ⟨c1, h⟩ | ⟨c1, h⟩
  · refine ai (r_if_eq_t (pc := 194) (tgt := 203) (by decide +kernel : decode k_R_tellItem.2.1 194 = .ok (.ifCond .eq (9), 3)) (by decide) c1) ?_
    exact (ai (r_sub [1, 2, 0] rfl) (R_tellItem_203_run hL h))
  · refine ai (r_if_eq_f (pc := 194) 203 (by decide +kernel : decode k_R_tellItem.2.1 194 = .ok (.ifCond .eq (9), 3)) (by decide) c1) ?_
    refine ai (r_iload_n (pc := 197) (k := 2) (by decide +kernel : decode k_R_tellItem.2.1 197 = .ok (.iload_n 1, 1)) rfl rfl) ?_
    refine ai (r_bipush (pc := 198) (by decide +kernel : decode k_R_tellItem.2.1 198 = .ok (.bipush (6), 2)) (by decide : _ = (6 : Int32))) ?_
    rcases ite_some h with ⟨c2, h⟩ | ⟨c2, h⟩
    · refine ai (r_icmp_gt_t (pc := 200) (tgt := 212) (by decide +kernel : decode k_R_tellItem.2.1 200 = .ok (.if_icmp .gt (12), 3)) (by decide) c2) ?_
      exact (ai (r_sub [1, 2] rfl) (R_tellItem_212_run hL h))
    · refine ai (r_icmp_gt_f (pc := 200) 212 (by decide +kernel : decode k_R_tellItem.2.1 200 = .ok (.if_icmp .gt (12), 3)) (by decide) c2) ?_
      exact (ai (r_sub [1, 2, 0] rfl) (R_tellItem_203_run hL h))
set_option maxRecDepth 100000 in
set_option maxHeartbeats 4000000 in
theorem R_tellItem_187_run {x1 : Int32} {m m' : Mem} {r : Unit} (hL : RL m) (h : R_tellItem_187 x1 m = some (r, m')) : Run k_R_tellItem 187 [(0, .ref 0), (1, .int x1)] [] m none m' ∧ RL m' := by
  unfold R_tellItem_187 at h
  refine ai (r_iconst (pc := 187) (by decide +kernel : decode k_R_tellItem.2.1 187 = .ok (.iconst 1, 1)) ic_1) ?_
  refine ai (r_goto (pc := 188) (tgt := 192) (by decide +kernel : decode k_R_tellItem.2.1 188 = .ok (.goto (4), 3)) (by decide)) ?_
  exact (R_tellItem_192_run hL h)
set_option maxRecDepth 100000 in
set_option maxHeartbeats 4000000 in
theorem R_tellItem_154_run {x1 : Int32} {m m' : Mem} {r : Unit} (hL : RL m) (h : R_tellItem_154 x1 m = some (r, m')) : Run k_R_tellItem 154 [(0, .ref 0), (1, .int x1)] [] m none m' ∧ RL m' := by
  unfold R_tellItem_154 at h
  refine ai (p_aload_n (pc := 154) (k := 0) (by decide +kernel : decode k_R_tellItem.2.1 154 = .ok (.aload_n 0, 1)) rfl rfl) ?_
  refine ai (r_getI (pc := 155) (by decide +kernel : decode k_R_tellItem.2.1 155 = .ok (.getfield 314, 3)) lg_12_314 (by decide) (RC_0 hL).1) ?_
  rcases ite_some h with ⟨c1, h⟩ | ⟨c1, h⟩
  · refine ai (r_if_le_t (pc := 158) (tgt := 162) (by decide +kernel : decode k_R_tellItem.2.1 158 = .ok (.ifCond .le (4), 3)) (by decide) c1) ?_
    refine ai (p_aload_n (pc := 162) (k := 0) (by decide +kernel : decode k_R_tellItem.2.1 162 = .ok (.aload_n 0, 1)) rfl rfl) ?_
    refine ai (p_getr (pc := 163) (RR_1555_0 hL) (by decide +kernel : decode k_R_tellItem.2.1 163 = .ok (.getfield 40, 3)) lg_12_40 (RC_0 hL).1) ?_
    refine ai (p_aload_n (pc := 166) (k := 0) (by decide +kernel : decode k_R_tellItem.2.1 166 = .ok (.aload_n 0, 1)) rfl rfl) ?_
    refine ai (r_getI (pc := 167) (by decide +kernel : decode k_R_tellItem.2.1 167 = .ok (.getfield 350, 3)) lg_12_350 (by decide) (RC_0 hL).1) ?_
    obtain ⟨g2, h⟩ := gd_some h
    refine ai (p_iald (pc := 170) (by decide +kernel : decode k_R_tellItem.2.1 170 = .ok (.iaload, 1)) (RC_8 hL).1 (RC_8 hL).2 g2) ?_
    rcases ite_some h with ⟨c3, h⟩ | ⟨c3, h⟩
    · refine ai (r_if_eq_t (pc := 171) (tgt := 187) (by decide +kernel : decode k_R_tellItem.2.1 171 = .ok (.ifCond .eq (16), 3)) (by decide) c3) ?_
      exact (R_tellItem_187_run hL h)
    · refine ai (r_if_eq_f (pc := 171) 187 (by decide +kernel : decode k_R_tellItem.2.1 171 = .ok (.ifCond .eq (16), 3)) (by decide) c3) ?_
      refine ai (p_aload_n (pc := 174) (k := 0) (by decide +kernel : decode k_R_tellItem.2.1 174 = .ok (.aload_n 0, 1)) rfl rfl) ?_
      refine ai (p_getr (pc := 175) (RR_1555_0 hL) (by decide +kernel : decode k_R_tellItem.2.1 175 = .ok (.getfield 40, 3)) lg_12_40 (RC_0 hL).1) ?_
      refine ai (p_aload_n (pc := 178) (k := 0) (by decide +kernel : decode k_R_tellItem.2.1 178 = .ok (.aload_n 0, 1)) rfl rfl) ?_
      refine ai (r_getI (pc := 179) (by decide +kernel : decode k_R_tellItem.2.1 179 = .ok (.getfield 350, 3)) lg_12_350 (by decide) (RC_0 hL).1) ?_
      obtain ⟨g4, h⟩ := gd_some h
      refine ai (p_iald (pc := 182) (by decide +kernel : decode k_R_tellItem.2.1 182 = .ok (.iaload, 1)) (RC_8 hL).1 (RC_8 hL).2 g4) ?_
      refine ai (r_iconst (pc := 183) (by decide +kernel : decode k_R_tellItem.2.1 183 = .ok (.iconst 3, 1)) ic_3) ?_
      rcases ite_some h with ⟨c5, h⟩ | ⟨c5, h⟩
      · refine ai (r_icmp_ne_f (pc := 184) 191 (by decide +kernel : decode k_R_tellItem.2.1 184 = .ok (.if_icmp .ne (7), 3)) (by decide) c5) ?_
        exact (R_tellItem_187_run hL h)
      · refine ai (r_icmp_ne_t (pc := 184) (tgt := 191) (by decide +kernel : decode k_R_tellItem.2.1 184 = .ok (.if_icmp .ne (7), 3)) (by decide) c5) ?_
        refine ai (r_iconst (pc := 191) (by decide +kernel : decode k_R_tellItem.2.1 191 = .ok (.iconst 0, 1)) ic_0) ?_
        exact (R_tellItem_192_run hL h)
  · refine ai (r_if_le_f (pc := 158) 162 (by decide +kernel : decode k_R_tellItem.2.1 158 = .ok (.ifCond .le (4), 3)) (by decide) c1) ?_
    cases h
    exact ⟨r_vret rfl (by decide +kernel : decode k_R_tellItem.2.1 161 = .ok (.return_, 1)), hL⟩
set_option maxRecDepth 100000 in
set_option maxHeartbeats 4000000 in
theorem R_tellItem_121_run {s0 : Int32} {m m' : Mem} {r : Unit} (hL : RL m) (h : R_tellItem_121 s0 m = some (r, m')) : Run k_R_tellItem 121 [(0, .ref 0)] [.int s0] m none m' ∧ RL m' := by
  unfold R_tellItem_121 at h
  refine ai (e_istore_n (pc := 121) rfl (by decide +kernel : decode k_R_tellItem.2.1 121 = .ok (.istore_n 1, 1)) rfl (by decide) rfl) ?_
  refine ai (r_iload_n (pc := 122) (k := 0) (by decide +kernel : decode k_R_tellItem.2.1 122 = .ok (.iload_n 1, 1)) rfl rfl) ?_
  refine ai (r_iconst (pc := 123) (by decide +kernel : decode k_R_tellItem.2.1 123 = .ok (.iconst (-1), 1)) ic_m1) ?_
  rcases ite_some h with ⟨c1, h⟩ | ⟨c1, h⟩
  · refine ai (r_icmp_ne_f (pc := 124) 135 (by decide +kernel : decode k_R_tellItem.2.1 124 = .ok (.if_icmp .ne (11), 3)) (by decide) c1) ?_
    refine ai (p_aload_n (pc := 127) (k := 1) (by decide +kernel : decode k_R_tellItem.2.1 127 = .ok (.aload_n 0, 1)) rfl rfl) ?_
    refine ai (r_iconst (pc := 128) (by decide +kernel : decode k_R_tellItem.2.1 128 = .ok (.iconst 1, 1)) ic_1) ?_
    obtain ⟨r2, m3, hr2, h⟩ := bn_some h
    have q4 := R_fail_run hL hr2
    have c5 := (RC_0 hL).1
    have hL := q4.2
    refine ai (q_callV (pc := 129) (As := [.int 1]) (st := []) (st2 := []) (b := 0) rfl rfl (by decide +kernel : decode k_R_tellItem.2.1 129 = .ok (.invokevirtual 329, 3)) lc_12_329 mo_R_fail ⟨Nat.le_of_ble_eq_true rfl, Nat.le_of_ble_eq_true rfl⟩ (Nat.le_of_ble_eq_true rfl) (Nat.le_of_ble_eq_true rfl) c5 q4.1) ?_
    refine ai (r_goto (pc := 132) (tgt := 154) (by decide +kernel : decode k_R_tellItem.2.1 132 = .ok (.goto (22), 3)) (by decide)) ?_
    exact (ai (r_sub [1, 0] rfl) (R_tellItem_154_run hL h))
  · refine ai (r_icmp_ne_t (pc := 124) (tgt := 135) (by decide +kernel : decode k_R_tellItem.2.1 124 = .ok (.if_icmp .ne (11), 3)) (by decide) c1) ?_
    refine ai (p_aload_n (pc := 135) (k := 1) (by decide +kernel : decode k_R_tellItem.2.1 135 = .ok (.aload_n 0, 1)) rfl rfl) ?_
    refine ai (p_getr (pc := 136) (RR_1561_0 hL) (by decide +kernel : decode k_R_tellItem.2.1 136 = .ok (.getfield 58, 3)) lg_12_58 (RC_0 hL).1) ?_
    refine ai (p_aload_n (pc := 139) (k := 1) (by decide +kernel : decode k_R_tellItem.2.1 139 = .ok (.aload_n 0, 1)) rfl rfl) ?_
    refine ai (r_getI (pc := 140) (by decide +kernel : decode k_R_tellItem.2.1 140 = .ok (.getfield 350, 3)) lg_12_350 (by decide) (RC_0 hL).1) ?_
    obtain ⟨g6, h⟩ := gd_some h
    refine ai (p_iald (pc := 143) (by decide +kernel : decode k_R_tellItem.2.1 143 = .ok (.iaload, 1)) (RC_14 hL).1 (RC_14 hL).2 g6) ?_
    refine ai (r_bipush (pc := 144) (by decide +kernel : decode k_R_tellItem.2.1 144 = .ok (.bipush (30), 2)) (by decide : _ = (30 : Int32))) ?_
    rcases ite_some h with ⟨c7, h⟩ | ⟨c7, h⟩
    · refine ai (r_icmp_ne_f (pc := 146) 154 (by decide +kernel : decode k_R_tellItem.2.1 146 = .ok (.if_icmp .ne (8), 3)) (by decide) c7) ?_
      refine ai (p_aload_n (pc := 149) (k := 1) (by decide +kernel : decode k_R_tellItem.2.1 149 = .ok (.aload_n 0, 1)) rfl rfl) ?_
      refine ai (r_iconst (pc := 150) (by decide +kernel : decode k_R_tellItem.2.1 150 = .ok (.iconst 2, 1)) ic_2) ?_
      obtain ⟨r8, m9, hr8, h⟩ := bn_some h
      have q10 := R_fail_run hL hr8
      have c11 := (RC_0 hL).1
      have hL := q10.2
      refine ai (q_callV (pc := 151) (As := [.int 2]) (st := []) (st2 := []) (b := 0) rfl rfl (by decide +kernel : decode k_R_tellItem.2.1 151 = .ok (.invokevirtual 329, 3)) lc_12_329 mo_R_fail ⟨Nat.le_of_ble_eq_true rfl, Nat.le_of_ble_eq_true rfl⟩ (Nat.le_of_ble_eq_true rfl) (Nat.le_of_ble_eq_true rfl) c11 q10.1) ?_
      exact (ai (r_sub [1, 0] rfl) (R_tellItem_154_run hL h))
    · refine ai (r_icmp_ne_t (pc := 146) (tgt := 154) (by decide +kernel : decode k_R_tellItem.2.1 146 = .ok (.if_icmp .ne (8), 3)) (by decide) c7) ?_
      exact (ai (r_sub [1, 0] rfl) (R_tellItem_154_run hL h))
set_option maxRecDepth 100000 in
set_option maxHeartbeats 4000000 in
theorem R_tellItem_run {m m' : Mem} {r : Unit} (hL : RL m) (h : R_tellItem m = some (r, m')) : Run k_R_tellItem 0 [(0, .ref 0)] [] m none m' ∧ RL m' := by
  unfold R_tellItem at h
  refine ai (p_aload_n (pc := 0) (k := 0) (by decide +kernel : decode k_R_tellItem.2.1 0 = .ok (.aload_n 0, 1)) rfl rfl) ?_
  refine ai (r_bipush (pc := 1) (by decide +kernel : decode k_R_tellItem.2.1 1 = .ok (.bipush (26), 2)) (by decide : _ = (26 : Int32))) ?_
  obtain ⟨r1, m2, hr1, h⟩ := bn_some h
  have q3 := R_is_run hL hr1
  have c4 := (RC_0 hL).1
  have hL := q3.2
  refine ai (q_callV (pc := 3) (As := [.int 26]) (st := []) (st2 := [.int r1]) (b := 0) rfl rfl (by decide +kernel : decode k_R_tellItem.2.1 3 = .ok (.invokevirtual 332, 3)) lc_12_332 mo_R_is ⟨Nat.le_of_ble_eq_true rfl, Nat.le_of_ble_eq_true rfl⟩ (Nat.le_of_ble_eq_true rfl) (Nat.le_of_ble_eq_true rfl) c4 q3.1) ?_
  rcases ite_some h with ⟨c5, h⟩ | ⟨c5, h⟩
  · refine ai (r_if_eq_t (pc := 6) (tgt := 13) (by decide +kernel : decode k_R_tellItem.2.1 6 = .ok (.ifCond .eq (7), 3)) (by decide) c5) ?_
    refine ai (p_aload_n (pc := 13) (k := 0) (by decide +kernel : decode k_R_tellItem.2.1 13 = .ok (.aload_n 0, 1)) rfl rfl) ?_
    refine ai (r_bipush (pc := 14) (by decide +kernel : decode k_R_tellItem.2.1 14 = .ok (.bipush (28), 2)) (by decide : _ = (28 : Int32))) ?_
    obtain ⟨r6, m7, hr6, h⟩ := bn_some h
    have q8 := R_is_run hL hr6
    have c9 := (RC_0 hL).1
    have hL := q8.2
    refine ai (q_callV (pc := 16) (As := [.int 28]) (st := []) (st2 := [.int r6]) (b := 0) rfl rfl (by decide +kernel : decode k_R_tellItem.2.1 16 = .ok (.invokevirtual 332, 3)) lc_12_332 mo_R_is ⟨Nat.le_of_ble_eq_true rfl, Nat.le_of_ble_eq_true rfl⟩ (Nat.le_of_ble_eq_true rfl) (Nat.le_of_ble_eq_true rfl) c9 q8.1) ?_
    rcases ite_some h with ⟨c10, h⟩ | ⟨c10, h⟩
    · refine ai (r_if_eq_t (pc := 19) (tgt := 26) (by decide +kernel : decode k_R_tellItem.2.1 19 = .ok (.ifCond .eq (7), 3)) (by decide) c10) ?_
      refine ai (p_aload_n (pc := 26) (k := 0) (by decide +kernel : decode k_R_tellItem.2.1 26 = .ok (.aload_n 0, 1)) rfl rfl) ?_
      refine ai (r_bipush (pc := 27) (by decide +kernel : decode k_R_tellItem.2.1 27 = .ok (.bipush (29), 2)) (by decide : _ = (29 : Int32))) ?_
      obtain ⟨r11, m12, hr11, h⟩ := bn_some h
      have q13 := R_is_run hL hr11
      have c14 := (RC_0 hL).1
      have hL := q13.2
      refine ai (q_callV (pc := 29) (As := [.int 29]) (st := []) (st2 := [.int r11]) (b := 0) rfl rfl (by decide +kernel : decode k_R_tellItem.2.1 29 = .ok (.invokevirtual 332, 3)) lc_12_332 mo_R_is ⟨Nat.le_of_ble_eq_true rfl, Nat.le_of_ble_eq_true rfl⟩ (Nat.le_of_ble_eq_true rfl) (Nat.le_of_ble_eq_true rfl) c14 q13.1) ?_
      rcases ite_some h with ⟨c15, h⟩ | ⟨c15, h⟩
      · refine ai (r_if_eq_t (pc := 32) (tgt := 39) (by decide +kernel : decode k_R_tellItem.2.1 32 = .ok (.ifCond .eq (7), 3)) (by decide) c15) ?_
        refine ai (p_aload_n (pc := 39) (k := 0) (by decide +kernel : decode k_R_tellItem.2.1 39 = .ok (.aload_n 0, 1)) rfl rfl) ?_
        refine ai (r_bipush (pc := 40) (by decide +kernel : decode k_R_tellItem.2.1 40 = .ok (.bipush (34), 2)) (by decide : _ = (34 : Int32))) ?_
        obtain ⟨r16, m17, hr16, h⟩ := bn_some h
        have q18 := R_is_run hL hr16
        have c19 := (RC_0 hL).1
        have hL := q18.2
        refine ai (q_callV (pc := 42) (As := [.int 34]) (st := []) (st2 := [.int r16]) (b := 0) rfl rfl (by decide +kernel : decode k_R_tellItem.2.1 42 = .ok (.invokevirtual 332, 3)) lc_12_332 mo_R_is ⟨Nat.le_of_ble_eq_true rfl, Nat.le_of_ble_eq_true rfl⟩ (Nat.le_of_ble_eq_true rfl) (Nat.le_of_ble_eq_true rfl) c19 q18.1) ?_
        rcases ite_some h with ⟨c20, h⟩ | ⟨c20, h⟩
        · refine ai (r_if_eq_t (pc := 45) (tgt := 52) (by decide +kernel : decode k_R_tellItem.2.1 45 = .ok (.ifCond .eq (7), 3)) (by decide) c20) ?_
          refine ai (p_aload_n (pc := 52) (k := 0) (by decide +kernel : decode k_R_tellItem.2.1 52 = .ok (.aload_n 0, 1)) rfl rfl) ?_
          refine ai (r_bipush (pc := 53) (by decide +kernel : decode k_R_tellItem.2.1 53 = .ok (.bipush (38), 2)) (by decide : _ = (38 : Int32))) ?_
          obtain ⟨r21, m22, hr21, h⟩ := bn_some h
          have q23 := R_is_run hL hr21
          have c24 := (RC_0 hL).1
          have hL := q23.2
          refine ai (q_callV (pc := 55) (As := [.int 38]) (st := []) (st2 := [.int r21]) (b := 0) rfl rfl (by decide +kernel : decode k_R_tellItem.2.1 55 = .ok (.invokevirtual 332, 3)) lc_12_332 mo_R_is ⟨Nat.le_of_ble_eq_true rfl, Nat.le_of_ble_eq_true rfl⟩ (Nat.le_of_ble_eq_true rfl) (Nat.le_of_ble_eq_true rfl) c24 q23.1) ?_
          rcases ite_some h with ⟨c25, h⟩ | ⟨c25, h⟩
          · refine ai (r_if_eq_t (pc := 58) (tgt := 65) (by decide +kernel : decode k_R_tellItem.2.1 58 = .ok (.ifCond .eq (7), 3)) (by decide) c25) ?_
            refine ai (p_aload_n (pc := 65) (k := 0) (by decide +kernel : decode k_R_tellItem.2.1 65 = .ok (.aload_n 0, 1)) rfl rfl) ?_
            refine ai (r_bipush (pc := 66) (by decide +kernel : decode k_R_tellItem.2.1 66 = .ok (.bipush (39), 2)) (by decide : _ = (39 : Int32))) ?_
            obtain ⟨r26, m27, hr26, h⟩ := bn_some h
            have q28 := R_is_run hL hr26
            have c29 := (RC_0 hL).1
            have hL := q28.2
            refine ai (q_callV (pc := 68) (As := [.int 39]) (st := []) (st2 := [.int r26]) (b := 0) rfl rfl (by decide +kernel : decode k_R_tellItem.2.1 68 = .ok (.invokevirtual 332, 3)) lc_12_332 mo_R_is ⟨Nat.le_of_ble_eq_true rfl, Nat.le_of_ble_eq_true rfl⟩ (Nat.le_of_ble_eq_true rfl) (Nat.le_of_ble_eq_true rfl) c29 q28.1) ?_
            rcases ite_some h with ⟨c30, h⟩ | ⟨c30, h⟩
            · refine ai (r_if_eq_t (pc := 71) (tgt := 78) (by decide +kernel : decode k_R_tellItem.2.1 71 = .ok (.ifCond .eq (7), 3)) (by decide) c30) ?_
              refine ai (p_aload_n (pc := 78) (k := 0) (by decide +kernel : decode k_R_tellItem.2.1 78 = .ok (.aload_n 0, 1)) rfl rfl) ?_
              refine ai (r_bipush (pc := 79) (by decide +kernel : decode k_R_tellItem.2.1 79 = .ok (.bipush (41), 2)) (by decide : _ = (41 : Int32))) ?_
              obtain ⟨r31, m32, hr31, h⟩ := bn_some h
              have q33 := R_is_run hL hr31
              have c34 := (RC_0 hL).1
              have hL := q33.2
              refine ai (q_callV (pc := 81) (As := [.int 41]) (st := []) (st2 := [.int r31]) (b := 0) rfl rfl (by decide +kernel : decode k_R_tellItem.2.1 81 = .ok (.invokevirtual 332, 3)) lc_12_332 mo_R_is ⟨Nat.le_of_ble_eq_true rfl, Nat.le_of_ble_eq_true rfl⟩ (Nat.le_of_ble_eq_true rfl) (Nat.le_of_ble_eq_true rfl) c34 q33.1) ?_
              rcases ite_some h with ⟨c35, h⟩ | ⟨c35, h⟩
              · refine ai (r_if_eq_t (pc := 84) (tgt := 92) (by decide +kernel : decode k_R_tellItem.2.1 84 = .ok (.ifCond .eq (8), 3)) (by decide) c35) ?_
                refine ai (p_aload_n (pc := 92) (k := 0) (by decide +kernel : decode k_R_tellItem.2.1 92 = .ok (.aload_n 0, 1)) rfl rfl) ?_
                refine ai (r_bipush (pc := 93) (by decide +kernel : decode k_R_tellItem.2.1 93 = .ok (.bipush (42), 2)) (by decide : _ = (42 : Int32))) ?_
                obtain ⟨r36, m37, hr36, h⟩ := bn_some h
                have q38 := R_is_run hL hr36
                have c39 := (RC_0 hL).1
                have hL := q38.2
                refine ai (q_callV (pc := 95) (As := [.int 42]) (st := []) (st2 := [.int r36]) (b := 0) rfl rfl (by decide +kernel : decode k_R_tellItem.2.1 95 = .ok (.invokevirtual 332, 3)) lc_12_332 mo_R_is ⟨Nat.le_of_ble_eq_true rfl, Nat.le_of_ble_eq_true rfl⟩ (Nat.le_of_ble_eq_true rfl) (Nat.le_of_ble_eq_true rfl) c39 q38.1) ?_
                rcases ite_some h with ⟨c40, h⟩ | ⟨c40, h⟩
                · refine ai (r_if_eq_t (pc := 98) (tgt := 106) (by decide +kernel : decode k_R_tellItem.2.1 98 = .ok (.ifCond .eq (8), 3)) (by decide) c40) ?_
                  refine ai (p_aload_n (pc := 106) (k := 0) (by decide +kernel : decode k_R_tellItem.2.1 106 = .ok (.aload_n 0, 1)) rfl rfl) ?_
                  refine ai (r_bipush (pc := 107) (by decide +kernel : decode k_R_tellItem.2.1 107 = .ok (.bipush (31), 2)) (by decide : _ = (31 : Int32))) ?_
                  obtain ⟨r41, m42, hr41, h⟩ := bn_some h
                  have q43 := R_is_run hL hr41
                  have c44 := (RC_0 hL).1
                  have hL := q43.2
                  refine ai (q_callV (pc := 109) (As := [.int 31]) (st := []) (st2 := [.int r41]) (b := 0) rfl rfl (by decide +kernel : decode k_R_tellItem.2.1 109 = .ok (.invokevirtual 332, 3)) lc_12_332 mo_R_is ⟨Nat.le_of_ble_eq_true rfl, Nat.le_of_ble_eq_true rfl⟩ (Nat.le_of_ble_eq_true rfl) (Nat.le_of_ble_eq_true rfl) c44 q43.1) ?_
                  rcases ite_some h with ⟨c45, h⟩ | ⟨c45, h⟩
                  · refine ai (r_if_eq_t (pc := 112) (tgt := 120) (by decide +kernel : decode k_R_tellItem.2.1 112 = .ok (.ifCond .eq (8), 3)) (by decide) c45) ?_
                    refine ai (r_iconst (pc := 120) (by decide +kernel : decode k_R_tellItem.2.1 120 = .ok (.iconst (-1), 1)) ic_m1) ?_
                    exact (R_tellItem_121_run hL h)
                  · refine ai (r_if_eq_f (pc := 112) 120 (by decide +kernel : decode k_R_tellItem.2.1 112 = .ok (.ifCond .eq (8), 3)) (by decide) c45) ?_
                    refine ai (r_bipush (pc := 115) (by decide +kernel : decode k_R_tellItem.2.1 115 = .ok (.bipush (8), 2)) (by decide : _ = (8 : Int32))) ?_
                    refine ai (r_goto (pc := 117) (tgt := 121) (by decide +kernel : decode k_R_tellItem.2.1 117 = .ok (.goto (4), 3)) (by decide)) ?_
                    exact (R_tellItem_121_run hL h)
                · refine ai (r_if_eq_f (pc := 98) 106 (by decide +kernel : decode k_R_tellItem.2.1 98 = .ok (.ifCond .eq (8), 3)) (by decide) c40) ?_
                  refine ai (r_bipush (pc := 101) (by decide +kernel : decode k_R_tellItem.2.1 101 = .ok (.bipush (7), 2)) (by decide : _ = (7 : Int32))) ?_
                  refine ai (r_goto (pc := 103) (tgt := 121) (by decide +kernel : decode k_R_tellItem.2.1 103 = .ok (.goto (18), 3)) (by decide)) ?_
                  exact (R_tellItem_121_run hL h)
              · refine ai (r_if_eq_f (pc := 84) 92 (by decide +kernel : decode k_R_tellItem.2.1 84 = .ok (.ifCond .eq (8), 3)) (by decide) c35) ?_
                refine ai (r_bipush (pc := 87) (by decide +kernel : decode k_R_tellItem.2.1 87 = .ok (.bipush (6), 2)) (by decide : _ = (6 : Int32))) ?_
                refine ai (r_goto (pc := 89) (tgt := 121) (by decide +kernel : decode k_R_tellItem.2.1 89 = .ok (.goto (32), 3)) (by decide)) ?_
                exact (R_tellItem_121_run hL h)
            · refine ai (r_if_eq_f (pc := 71) 78 (by decide +kernel : decode k_R_tellItem.2.1 71 = .ok (.ifCond .eq (7), 3)) (by decide) c30) ?_
              refine ai (r_iconst (pc := 74) (by decide +kernel : decode k_R_tellItem.2.1 74 = .ok (.iconst 5, 1)) ic_5) ?_
              refine ai (r_goto (pc := 75) (tgt := 121) (by decide +kernel : decode k_R_tellItem.2.1 75 = .ok (.goto (46), 3)) (by decide)) ?_
              exact (R_tellItem_121_run hL h)
          · refine ai (r_if_eq_f (pc := 58) 65 (by decide +kernel : decode k_R_tellItem.2.1 58 = .ok (.ifCond .eq (7), 3)) (by decide) c25) ?_
            refine ai (r_iconst (pc := 61) (by decide +kernel : decode k_R_tellItem.2.1 61 = .ok (.iconst 4, 1)) ic_4) ?_
            refine ai (r_goto (pc := 62) (tgt := 121) (by decide +kernel : decode k_R_tellItem.2.1 62 = .ok (.goto (59), 3)) (by decide)) ?_
            exact (R_tellItem_121_run hL h)
        · refine ai (r_if_eq_f (pc := 45) 52 (by decide +kernel : decode k_R_tellItem.2.1 45 = .ok (.ifCond .eq (7), 3)) (by decide) c20) ?_
          refine ai (r_iconst (pc := 48) (by decide +kernel : decode k_R_tellItem.2.1 48 = .ok (.iconst 3, 1)) ic_3) ?_
          refine ai (r_goto (pc := 49) (tgt := 121) (by decide +kernel : decode k_R_tellItem.2.1 49 = .ok (.goto (72), 3)) (by decide)) ?_
          exact (R_tellItem_121_run hL h)
      · refine ai (r_if_eq_f (pc := 32) 39 (by decide +kernel : decode k_R_tellItem.2.1 32 = .ok (.ifCond .eq (7), 3)) (by decide) c15) ?_
        refine ai (r_iconst (pc := 35) (by decide +kernel : decode k_R_tellItem.2.1 35 = .ok (.iconst 2, 1)) ic_2) ?_
        refine ai (r_goto (pc := 36) (tgt := 121) (by decide +kernel : decode k_R_tellItem.2.1 36 = .ok (.goto (85), 3)) (by decide)) ?_
        exact (R_tellItem_121_run hL h)
    · refine ai (r_if_eq_f (pc := 19) 26 (by decide +kernel : decode k_R_tellItem.2.1 19 = .ok (.ifCond .eq (7), 3)) (by decide) c10) ?_
      refine ai (r_iconst (pc := 22) (by decide +kernel : decode k_R_tellItem.2.1 22 = .ok (.iconst 1, 1)) ic_1) ?_
      refine ai (r_goto (pc := 23) (tgt := 121) (by decide +kernel : decode k_R_tellItem.2.1 23 = .ok (.goto (98), 3)) (by decide)) ?_
      exact (R_tellItem_121_run hL h)
  · refine ai (r_if_eq_f (pc := 6) 13 (by decide +kernel : decode k_R_tellItem.2.1 6 = .ok (.ifCond .eq (7), 3)) (by decide) c5) ?_
    refine ai (r_iconst (pc := 9) (by decide +kernel : decode k_R_tellItem.2.1 9 = .ok (.iconst 0, 1)) ic_0) ?_
    refine ai (r_goto (pc := 10) (tgt := 121) (by decide +kernel : decode k_R_tellItem.2.1 10 = .ok (.goto (111), 3)) (by decide)) ?_
    exact (R_tellItem_121_run hL h)
set_option maxRecDepth 100000 in
set_option maxHeartbeats 4000000 in
theorem R_changed_run {m m' : Mem} {r : Unit} (hL : RL m) (h : R_changed m = some (r, m')) : Run k_R_changed 0 [(0, .ref 0)] [] m none m' ∧ RL m' := by
  unfold R_changed at h
  refine ai (p_aload_n (pc := 0) (k := 0) (by decide +kernel : decode k_R_changed.2.1 0 = .ok (.aload_n 0, 1)) rfl rfl) ?_
  refine ai (r_iconst (pc := 1) (by decide +kernel : decode k_R_changed.2.1 1 = .ok (.iconst (-1), 1)) ic_m1) ?_
  have c1 := (RC_0 hL).1
  obtain ⟨m2, hm2, h⟩ := vb_some h
  have hL : RL m2 := by rw [hm2]; exact hL
  refine ai (p_putI (pc := 2) hm2 (by decide +kernel : decode k_R_changed.2.1 2 = .ok (.putfield 173, 3)) lp_12_173 c1) ?_
  refine ai (p_aload_n (pc := 5) (k := 0) (by decide +kernel : decode k_R_changed.2.1 5 = .ok (.aload_n 0, 1)) rfl rfl) ?_
  refine ai (r_iconst (pc := 6) (by decide +kernel : decode k_R_changed.2.1 6 = .ok (.iconst (-1), 1)) ic_m1) ?_
  have c3 := (RC_0 hL).1
  obtain ⟨m4, hm4, h⟩ := vb_some h
  have hL : RL m4 := by rw [hm4]; exact hL
  refine ai (p_putI (pc := 7) hm4 (by decide +kernel : decode k_R_changed.2.1 7 = .ok (.putfield 203, 3)) lp_12_203 c3) ?_
  cases h
  exact ⟨r_vret rfl (by decide +kernel : decode k_R_changed.2.1 10 = .ok (.return_, 1)), hL⟩
set_option maxRecDepth 100000 in
set_option maxHeartbeats 4000000 in
theorem R_fact_run {x1 : Int32} {x2 : Int32} {x3 : Int32} {x4 : Int32} {x5 : Int32} {m m' : Mem} {r : Int32} (hL : RL m) (h : R_fact x1 x2 x3 x4 x5 m = some (r, m')) : Run k_R_fact 0 [(0, .ref 0), (1, .int x1), (2, .int x2), (3, .int x3), (4, .int x4), (5, .int x5)] [] m (some (.int r)) m' ∧ RL m' := by
  unfold R_fact at h
  refine ai (p_aload_n (pc := 0) (k := 0) (by decide +kernel : decode k_R_fact.2.1 0 = .ok (.aload_n 0, 1)) rfl rfl) ?_
  refine ai (p_getr (pc := 1) (RR_1602_0 hL) (by decide +kernel : decode k_R_fact.2.1 1 = .ok (.getfield 149, 3)) lg_12_149 (RC_0 hL).1) ?_
  refine ai (p_aload_n (pc := 4) (k := 0) (by decide +kernel : decode k_R_fact.2.1 4 = .ok (.aload_n 0, 1)) rfl rfl) ?_
  refine ai (r_getI (pc := 5) (by decide +kernel : decode k_R_fact.2.1 5 = .ok (.getfield 338, 3)) lg_12_338 (by decide) (RC_0 hL).1) ?_
  refine ai (r_iload_n (pc := 8) (k := 1) (by decide +kernel : decode k_R_fact.2.1 8 = .ok (.iload_n 1, 1)) rfl rfl) ?_
  obtain ⟨g1, h⟩ := gd_some h
  have c2 := (RC_44 hL).1
  have c3 := (RC_44 hL).2
  obtain ⟨m4, hm4, h⟩ := vb_some h
  have hL : RL m4 := by rw [hm4]; exact hL
  refine ai (p_iast (pc := 9) hm4 (by decide +kernel : decode k_R_fact.2.1 9 = .ok (.iastore, 1)) c2 c3 g1) ?_
  refine ai (p_aload_n (pc := 10) (k := 0) (by decide +kernel : decode k_R_fact.2.1 10 = .ok (.aload_n 0, 1)) rfl rfl) ?_
  refine ai (p_getr (pc := 11) (RR_1603_0 hL) (by decide +kernel : decode k_R_fact.2.1 11 = .ok (.getfield 152, 3)) lg_12_152 (RC_0 hL).1) ?_
  refine ai (p_aload_n (pc := 14) (k := 0) (by decide +kernel : decode k_R_fact.2.1 14 = .ok (.aload_n 0, 1)) rfl rfl) ?_
  refine ai (r_getI (pc := 15) (by decide +kernel : decode k_R_fact.2.1 15 = .ok (.getfield 338, 3)) lg_12_338 (by decide) (RC_0 hL).1) ?_
  refine ai (r_iload_n (pc := 18) (k := 2) (by decide +kernel : decode k_R_fact.2.1 18 = .ok (.iload_n 2, 1)) rfl rfl) ?_
  obtain ⟨g5, h⟩ := gd_some h
  have c6 := (RC_45 hL).1
  have c7 := (RC_45 hL).2
  obtain ⟨m8, hm8, h⟩ := vb_some h
  have hL : RL m8 := by rw [hm8]; exact hL
  refine ai (p_iast (pc := 19) hm8 (by decide +kernel : decode k_R_fact.2.1 19 = .ok (.iastore, 1)) c6 c7 g5) ?_
  refine ai (p_aload_n (pc := 20) (k := 0) (by decide +kernel : decode k_R_fact.2.1 20 = .ok (.aload_n 0, 1)) rfl rfl) ?_
  refine ai (p_getr (pc := 21) (RR_1604_0 hL) (by decide +kernel : decode k_R_fact.2.1 21 = .ok (.getfield 155, 3)) lg_12_155 (RC_0 hL).1) ?_
  refine ai (p_aload_n (pc := 24) (k := 0) (by decide +kernel : decode k_R_fact.2.1 24 = .ok (.aload_n 0, 1)) rfl rfl) ?_
  refine ai (r_getI (pc := 25) (by decide +kernel : decode k_R_fact.2.1 25 = .ok (.getfield 338, 3)) lg_12_338 (by decide) (RC_0 hL).1) ?_
  refine ai (r_iload_n (pc := 28) (k := 3) (by decide +kernel : decode k_R_fact.2.1 28 = .ok (.iload_n 3, 1)) rfl rfl) ?_
  obtain ⟨g9, h⟩ := gd_some h
  have c10 := (RC_46 hL).1
  have c11 := (RC_46 hL).2
  obtain ⟨m12, hm12, h⟩ := vb_some h
  have hL : RL m12 := by rw [hm12]; exact hL
  refine ai (p_iast (pc := 29) hm12 (by decide +kernel : decode k_R_fact.2.1 29 = .ok (.iastore, 1)) c10 c11 g9) ?_
  refine ai (p_aload_n (pc := 30) (k := 0) (by decide +kernel : decode k_R_fact.2.1 30 = .ok (.aload_n 0, 1)) rfl rfl) ?_
  refine ai (p_getr (pc := 31) (RR_1605_0 hL) (by decide +kernel : decode k_R_fact.2.1 31 = .ok (.getfield 158, 3)) lg_12_158 (RC_0 hL).1) ?_
  refine ai (p_aload_n (pc := 34) (k := 0) (by decide +kernel : decode k_R_fact.2.1 34 = .ok (.aload_n 0, 1)) rfl rfl) ?_
  refine ai (r_getI (pc := 35) (by decide +kernel : decode k_R_fact.2.1 35 = .ok (.getfield 338, 3)) lg_12_338 (by decide) (RC_0 hL).1) ?_
  refine ai (r_iload (pc := 38) (k := 4) (by decide +kernel : decode k_R_fact.2.1 38 = .ok (.iload 4, 2)) rfl) ?_
  obtain ⟨g13, h⟩ := gd_some h
  have c14 := (RC_47 hL).1
  have c15 := (RC_47 hL).2
  obtain ⟨m16, hm16, h⟩ := vb_some h
  have hL : RL m16 := by rw [hm16]; exact hL
  refine ai (p_iast (pc := 40) hm16 (by decide +kernel : decode k_R_fact.2.1 40 = .ok (.iastore, 1)) c14 c15 g13) ?_
  refine ai (p_aload_n (pc := 41) (k := 0) (by decide +kernel : decode k_R_fact.2.1 41 = .ok (.aload_n 0, 1)) rfl rfl) ?_
  refine ai (p_getr (pc := 42) (RR_1606_0 hL) (by decide +kernel : decode k_R_fact.2.1 42 = .ok (.getfield 161, 3)) lg_12_161 (RC_0 hL).1) ?_
  refine ai (p_aload_n (pc := 45) (k := 0) (by decide +kernel : decode k_R_fact.2.1 45 = .ok (.aload_n 0, 1)) rfl rfl) ?_
  refine ai (r_getI (pc := 46) (by decide +kernel : decode k_R_fact.2.1 46 = .ok (.getfield 338, 3)) lg_12_338 (by decide) (RC_0 hL).1) ?_
  refine ai (r_iload (pc := 49) (k := 5) (by decide +kernel : decode k_R_fact.2.1 49 = .ok (.iload 5, 2)) rfl) ?_
  obtain ⟨g17, h⟩ := gd_some h
  have c18 := (RC_48 hL).1
  have c19 := (RC_48 hL).2
  obtain ⟨m20, hm20, h⟩ := vb_some h
  have hL : RL m20 := by rw [hm20]; exact hL
  refine ai (p_iast (pc := 51) hm20 (by decide +kernel : decode k_R_fact.2.1 51 = .ok (.iastore, 1)) c18 c19 g17) ?_
  refine ai (p_aload_n (pc := 52) (k := 0) (by decide +kernel : decode k_R_fact.2.1 52 = .ok (.aload_n 0, 1)) rfl rfl) ?_
  refine ai (r_dup (pc := 53) (by decide +kernel : decode k_R_fact.2.1 53 = .ok (.dup, 1)) (rfl)) ?_
  refine ai (r_getI (pc := 54) (by decide +kernel : decode k_R_fact.2.1 54 = .ok (.getfield 338, 3)) lg_12_338 (by decide) (RC_0 hL).1) ?_
  refine ai (r_iconst (pc := 57) (by decide +kernel : decode k_R_fact.2.1 57 = .ok (.iconst 1, 1)) ic_1) ?_
  refine ai (r_iadd (pc := 58) (by decide +kernel : decode k_R_fact.2.1 58 = .ok (.iadd, 1))) ?_
  have c21 := (RC_0 hL).1
  obtain ⟨m22, hm22, h⟩ := vb_some h
  have hL : RL m22 := by rw [hm22]; exact hL
  refine ai (p_putI (pc := 59) hm22 (by decide +kernel : decode k_R_fact.2.1 59 = .ok (.putfield 338, 3)) lp_12_338 c21) ?_
  refine ai (p_aload_n (pc := 62) (k := 0) (by decide +kernel : decode k_R_fact.2.1 62 = .ok (.aload_n 0, 1)) rfl rfl) ?_
  obtain ⟨r23, m24, hr23, h⟩ := bn_some h
  have q25 := R_changed_run hL hr23
  have c26 := (RC_0 hL).1
  have hL := q25.2
  refine ai (q_callV (pc := 63) (As := []) (st := []) (st2 := []) (b := 0) rfl rfl (by decide +kernel : decode k_R_fact.2.1 63 = .ok (.invokevirtual 437, 3)) lc_12_437 mo_R_changed ⟨Nat.le_of_ble_eq_true rfl, Nat.le_of_ble_eq_true rfl⟩ (Nat.le_of_ble_eq_true rfl) (Nat.le_of_ble_eq_true rfl) c26 q25.1) ?_
  refine ai (p_aload_n (pc := 66) (k := 0) (by decide +kernel : decode k_R_fact.2.1 66 = .ok (.aload_n 0, 1)) rfl rfl) ?_
  refine ai (r_getI (pc := 67) (by decide +kernel : decode k_R_fact.2.1 67 = .ok (.getfield 338, 3)) lg_12_338 (by decide) (RC_0 hL).1) ?_
  refine ai (r_iconst (pc := 70) (by decide +kernel : decode k_R_fact.2.1 70 = .ok (.iconst 1, 1)) ic_1) ?_
  refine ai (r_isub (pc := 71) (by decide +kernel : decode k_R_fact.2.1 71 = .ok (.isub, 1))) ?_
  cases h
  exact ⟨r_iret rfl (by decide +kernel : decode k_R_fact.2.1 72 = .ok (.ireturn, 1)), hL⟩
