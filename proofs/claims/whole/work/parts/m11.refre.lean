/-! written by gen/emit.py -/
set_option maxRecDepth 100000 in
set_option maxHeartbeats 4000000 in
theorem R_marginOf_79_run {x3 : Int32} {m m' : Mem} {r : Int32} (hL : RL m) (h : R_marginOf_79 x3 m = some (r, m')) : Run k_R_marginOf 79 [(0, .ref 0), (3, .int x3)] [] m (some (.int r)) m' ∧ RL m' := by
  unfold R_marginOf_79 at h
  refine ai (r_iload_n (pc := 79) (k := 1) (by decide +kernel : decode k_R_marginOf.2.1 79 = .ok (.iload_n 3, 1)) rfl rfl) ?_
  refine ai (p_aload_n (pc := 80) (k := 0) (by decide +kernel : decode k_R_marginOf.2.1 80 = .ok (.aload_n 0, 1)) rfl rfl) ?_
  refine ai (r_getI (pc := 81) (by decide +kernel : decode k_R_marginOf.2.1 81 = .ok (.getfield 512, 3)) lg_12_512 (by decide) (RC_0 hL).1) ?_
  refine ai (r_iadd (pc := 84) (by decide +kernel : decode k_R_marginOf.2.1 84 = .ok (.iadd, 1))) ?_
  cases h
  exact ⟨r_iret rfl (by decide +kernel : decode k_R_marginOf.2.1 85 = .ok (.ireturn, 1)), hL⟩
set_option maxRecDepth 100000 in
set_option maxHeartbeats 4000000 in
theorem R_marginOf_96_run {x2 : Int32} {x3 : Int32} {m m' : Mem} {r : Int32} (hL : RL m) (h : R_marginOf_96 x2 x3 m = some (r, m')) : Run k_R_marginOf 96 [(0, .ref 0), (2, .int x2), (3, .int x3)] [] m (some (.int r)) m' ∧ RL m' := by
  unfold R_marginOf_96 at h
  refine ai (r_iload_n (pc := 96) (k := 2) (by decide +kernel : decode k_R_marginOf.2.1 96 = .ok (.iload_n 3, 1)) rfl rfl) ?_
  refine ai (p_aload_n (pc := 97) (k := 0) (by decide +kernel : decode k_R_marginOf.2.1 97 = .ok (.aload_n 0, 1)) rfl rfl) ?_
  refine ai (p_aload_n (pc := 98) (k := 0) (by decide +kernel : decode k_R_marginOf.2.1 98 = .ok (.aload_n 0, 1)) rfl rfl) ?_
  refine ai (p_getr (pc := 99) (RR_1568_0 hL) (by decide +kernel : decode k_R_marginOf.2.1 99 = .ok (.getfield 80, 3)) lg_12_80 (RC_0 hL).1) ?_
  refine ai (p_aload_n (pc := 102) (k := 0) (by decide +kernel : decode k_R_marginOf.2.1 102 = .ok (.aload_n 0, 1)) rfl rfl) ?_
  refine ai (p_getr (pc := 103) (RR_1618_0 hL) (by decide +kernel : decode k_R_marginOf.2.1 103 = .ok (.getfield 185, 3)) lg_12_185 (RC_0 hL).1) ?_
  refine ai (r_iload_n (pc := 106) (k := 1) (by decide +kernel : decode k_R_marginOf.2.1 106 = .ok (.iload_n 2, 1)) rfl rfl) ?_
  obtain ⟨g1, h⟩ := gd_some h
  refine ai (p_iald (pc := 107) (by decide +kernel : decode k_R_marginOf.2.1 107 = .ok (.iaload, 1)) (RC_55 hL).1 (RC_55 hL).2 g1) ?_
  obtain ⟨g2, h⟩ := gd_some h
  refine ai (p_iald (pc := 108) (by decide +kernel : decode k_R_marginOf.2.1 108 = .ok (.iaload, 1)) (RC_21 hL).1 (RC_21 hL).2 g2) ?_
  refine ai (p_aload_n (pc := 109) (k := 0) (by decide +kernel : decode k_R_marginOf.2.1 109 = .ok (.aload_n 0, 1)) rfl rfl) ?_
  refine ai (p_getr (pc := 110) (RR_1569_0 hL) (by decide +kernel : decode k_R_marginOf.2.1 110 = .ok (.getfield 83, 3)) lg_12_83 (RC_0 hL).1) ?_
  refine ai (p_aload_n (pc := 113) (k := 0) (by decide +kernel : decode k_R_marginOf.2.1 113 = .ok (.aload_n 0, 1)) rfl rfl) ?_
  refine ai (p_getr (pc := 114) (RR_1618_0 hL) (by decide +kernel : decode k_R_marginOf.2.1 114 = .ok (.getfield 185, 3)) lg_12_185 (RC_0 hL).1) ?_
  refine ai (r_iload_n (pc := 117) (k := 1) (by decide +kernel : decode k_R_marginOf.2.1 117 = .ok (.iload_n 2, 1)) rfl rfl) ?_
  obtain ⟨g3, h⟩ := gd_some h
  refine ai (p_iald (pc := 118) (by decide +kernel : decode k_R_marginOf.2.1 118 = .ok (.iaload, 1)) (RC_55 hL).1 (RC_55 hL).2 g3) ?_
  obtain ⟨g4, h⟩ := gd_some h
  refine ai (p_iald (pc := 119) (by decide +kernel : decode k_R_marginOf.2.1 119 = .ok (.iaload, 1)) (RC_22 hL).1 (RC_22 hL).2 g4) ?_
  obtain ⟨r5, m6, hr5, h⟩ := bn_some h
  have q7 := R_termOf_run hL hr5
  have c8 := (RC_0 hL).1
  have hL := q7.2
  refine ai (q_callV (pc := 120) (As := [.int (aI m 21 (ix (aI m 55 (ix x2)))), .int (aI m 22 (ix (aI m 55 (ix x2))))]) (st := [.int x3]) (st2 := [.int r5, .int x3]) (b := 0) rfl rfl (by decide +kernel : decode k_R_marginOf.2.1 120 = .ok (.invokevirtual 471, 3)) lc_12_471 mo_R_termOf ⟨Nat.le_of_ble_eq_true rfl, Nat.le_of_ble_eq_true rfl⟩ (Nat.le_of_ble_eq_true rfl) (Nat.le_of_ble_eq_true rfl) c8 q7.1) ?_
  refine ai (r_iadd (pc := 123) (by decide +kernel : decode k_R_marginOf.2.1 123 = .ok (.iadd, 1))) ?_
  cases h
  exact ⟨r_iret rfl (by decide +kernel : decode k_R_marginOf.2.1 124 = .ok (.ireturn, 1)), hL⟩
set_option maxRecDepth 100000 in
set_option maxHeartbeats 4000000 in
theorem R_marginOf_214_run {k9 : Int32 → Int32 → Mem → Option (Int32 × Mem)} {k164 : Int32 → Int32 → Int32 → Int32 → Mem → Option (Int32 × Mem)} {x3 : Int32} {x5 : Int32} {x6 : Int32} {x7 : Int32} {m m' : Mem} {r : Int32} (hk9 : ∀ (x2 : Int32) (x3 : Int32) (m : Mem) (r : Int32) (m' : Mem), RL m → k9 x2 x3 m = some (r, m') → Run k_R_marginOf 9 [(0, .ref 0), (2, .int x2), (3, .int x3)] [] m (some (.int r)) m' ∧ RL m') (hk164 : ∀ (x3 : Int32) (x5 : Int32) (x6 : Int32) (x7 : Int32) (m : Mem) (r : Int32) (m' : Mem), RL m → k164 x3 x5 x6 x7 m = some (r, m') → Run k_R_marginOf 164 [(0, .ref 0), (3, .int x3), (5, .int x5), (6, .int x6), (7, .int x7)] [] m (some (.int r)) m' ∧ RL m') (hL : RL m) (h : R_marginOf_214 k9 k164 x3 x5 x6 x7 m = some (r, m')) : Run k_R_marginOf 214 [(0, .ref 0), (3, .int x3), (5, .int x5), (6, .int x6), (7, .int x7)] [] m (some (.int r)) m' ∧ RL m' := by
  unfold R_marginOf_214 at h
  obtain ⟨v1, hv1, h⟩ := vb_some h
  refine ai (e_iinc (pc := 214) (k := 4) hv1 ic_1 (by decide +kernel : decode k_R_marginOf.2.1 214 = .ok (.iinc 7 (1), 3)) rfl (by decide) rfl) ?_
  refine ai (r_goto (pc := 217) (tgt := 164) (by decide +kernel : decode k_R_marginOf.2.1 217 = .ok (.goto (-53), 3)) (by decide)) ?_
  exact (ai (r_sub [1, 2, 3, 4, 0] rfl) (hk164 x3 x5 x6 v1 m _ _ hL h))
set_option maxRecDepth 100000 in
set_option maxHeartbeats 4000000 in
theorem R_marginOf_266_run {k9 : Int32 → Int32 → Mem → Option (Int32 × Mem)} {x2 : Int32} {x3 : Int32} {m m' : Mem} {r : Int32} (hk9 : ∀ (x2 : Int32) (x3 : Int32) (m : Mem) (r : Int32) (m' : Mem), RL m → k9 x2 x3 m = some (r, m') → Run k_R_marginOf 9 [(0, .ref 0), (2, .int x2), (3, .int x3)] [] m (some (.int r)) m' ∧ RL m') (hL : RL m) (h : R_marginOf_266 k9 x2 x3 m = some (r, m')) : Run k_R_marginOf 266 [(0, .ref 0), (2, .int x2), (3, .int x3)] [] m (some (.int r)) m' ∧ RL m' := by
  unfold R_marginOf_266 at h
  refine ai (r_goto (pc := 266) (tgt := 9) (by decide +kernel : decode k_R_marginOf.2.1 266 = .ok (.goto (-257), 3)) (by decide)) ?_
  exact (hk9 x2 x3 m _ _ hL h)
set_option maxRecDepth 100000 in
set_option maxHeartbeats 4000000 in
theorem R_marginOf_243_run {k9 : Int32 → Int32 → Mem → Option (Int32 × Mem)} {x3 : Int32} {s0 : Int32} {m m' : Mem} {r : Int32} (hk9 : ∀ (x2 : Int32) (x3 : Int32) (m : Mem) (r : Int32) (m' : Mem), RL m → k9 x2 x3 m = some (r, m') → Run k_R_marginOf 9 [(0, .ref 0), (2, .int x2), (3, .int x3)] [] m (some (.int r)) m' ∧ RL m') (hL : RL m) (h : R_marginOf_243 k9 x3 s0 m = some (r, m')) : Run k_R_marginOf 243 [(0, .ref 0), (3, .int x3)] [.int s0] m (some (.int r)) m' ∧ RL m' := by
  unfold R_marginOf_243 at h
  refine ai (e_istore_n (pc := 243) rfl (by decide +kernel : decode k_R_marginOf.2.1 243 = .ok (.istore_n 2, 1)) rfl (by decide) rfl) ?_
  refine ai (r_iload_n (pc := 244) (k := 0) (by decide +kernel : decode k_R_marginOf.2.1 244 = .ok (.iload_n 2, 1)) rfl rfl) ?_
  refine ai (r_iconst (pc := 245) (by decide +kernel : decode k_R_marginOf.2.1 245 = .ok (.iconst (-1), 1)) ic_m1) ?_
  rcases ite_some h with ⟨c1, h⟩ | ⟨c1, h⟩
  · refine ai (r_icmp_eq_t (pc := 246) (tgt := 266) (by decide +kernel : decode k_R_marginOf.2.1 246 = .ok (.if_icmp .eq (20), 3)) (by decide) c1) ?_
    exact (ai (r_sub [1, 0, 2] rfl) (R_marginOf_266_run hk9 hL h))
  · refine ai (r_icmp_eq_f (pc := 246) 266 (by decide +kernel : decode k_R_marginOf.2.1 246 = .ok (.if_icmp .eq (20), 3)) (by decide) c1) ?_
    refine ai (p_aload_n (pc := 249) (k := 1) (by decide +kernel : decode k_R_marginOf.2.1 249 = .ok (.aload_n 0, 1)) rfl rfl) ?_
    refine ai (p_getr (pc := 250) (RR_1562_0 hL) (by decide +kernel : decode k_R_marginOf.2.1 250 = .ok (.getfield 61, 3)) lg_12_61 (RC_0 hL).1) ?_
    refine ai (p_aload_n (pc := 253) (k := 1) (by decide +kernel : decode k_R_marginOf.2.1 253 = .ok (.aload_n 0, 1)) rfl rfl) ?_
    refine ai (p_getr (pc := 254) (RR_1617_0 hL) (by decide +kernel : decode k_R_marginOf.2.1 254 = .ok (.getfield 182, 3)) lg_12_182 (RC_0 hL).1) ?_
    refine ai (r_iload_n (pc := 257) (k := 0) (by decide +kernel : decode k_R_marginOf.2.1 257 = .ok (.iload_n 2, 1)) rfl rfl) ?_
    obtain ⟨g2, h⟩ := gd_some h
    refine ai (p_iald (pc := 258) (by decide +kernel : decode k_R_marginOf.2.1 258 = .ok (.iaload, 1)) (RC_54 hL).1 (RC_54 hL).2 g2) ?_
    obtain ⟨g3, h⟩ := gd_some h
    refine ai (p_iald (pc := 259) (by decide +kernel : decode k_R_marginOf.2.1 259 = .ok (.iaload, 1)) (RC_15 hL).1 (RC_15 hL).2 g3) ?_
    refine ai (r_iconst (pc := 260) (by decide +kernel : decode k_R_marginOf.2.1 260 = .ok (.iconst 2, 1)) ic_2) ?_
    rcases ite_some h with ⟨c4, h⟩ | ⟨c4, h⟩
    · refine ai (r_icmp_eq_t (pc := 261) (tgt := 266) (by decide +kernel : decode k_R_marginOf.2.1 261 = .ok (.if_icmp .eq (5), 3)) (by decide) c4) ?_
      exact (ai (r_sub [1, 0, 2] rfl) (R_marginOf_266_run hk9 hL h))
    · refine ai (r_icmp_eq_f (pc := 261) 266 (by decide +kernel : decode k_R_marginOf.2.1 261 = .ok (.if_icmp .eq (5), 3)) (by decide) c4) ?_
      refine ai (r_iconst (pc := 264) (by decide +kernel : decode k_R_marginOf.2.1 264 = .ok (.iconst (-1), 1)) ic_m1) ?_
      refine ai (e_istore_n (pc := 265) rfl (by decide +kernel : decode k_R_marginOf.2.1 265 = .ok (.istore_n 2, 1)) rfl (by decide) rfl) ?_
      exact (ai (r_sub [1, 0, 2] rfl) (R_marginOf_266_run hk9 hL h))
set_option maxRecDepth 100000 in
set_option maxHeartbeats 4000000 in
theorem R_marginOf_220_run {k9 : Int32 → Int32 → Mem → Option (Int32 × Mem)} {x3 : Int32} {x5 : Int32} {x6 : Int32} {m m' : Mem} {r : Int32} (hk9 : ∀ (x2 : Int32) (x3 : Int32) (m : Mem) (r : Int32) (m' : Mem), RL m → k9 x2 x3 m = some (r, m') → Run k_R_marginOf 9 [(0, .ref 0), (2, .int x2), (3, .int x3)] [] m (some (.int r)) m' ∧ RL m') (hL : RL m) (h : R_marginOf_220 k9 x3 x5 x6 m = some (r, m')) : Run k_R_marginOf 220 [(0, .ref 0), (3, .int x3), (5, .int x5), (6, .int x6)] [] m (some (.int r)) m' ∧ RL m' := by
  unfold R_marginOf_220 at h
  refine ai (r_iload (pc := 220) (k := 3) (by decide +kernel : decode k_R_marginOf.2.1 220 = .ok (.iload 6, 2)) rfl) ?_
  refine ai (r_iconst (pc := 222) (by decide +kernel : decode k_R_marginOf.2.1 222 = .ok (.iconst (-1), 1)) ic_m1) ?_
  rcases ite_some h with ⟨c1, h⟩ | ⟨c1, h⟩
  · refine ai (r_icmp_ne_f (pc := 223) 230 (by decide +kernel : decode k_R_marginOf.2.1 223 = .ok (.if_icmp .ne (7), 3)) (by decide) c1) ?_
    refine ai (r_iconst (pc := 226) (by decide +kernel : decode k_R_marginOf.2.1 226 = .ok (.iconst (-1), 1)) ic_m1) ?_
    refine ai (r_goto (pc := 227) (tgt := 243) (by decide +kernel : decode k_R_marginOf.2.1 227 = .ok (.goto (16), 3)) (by decide)) ?_
    exact (ai (r_sub [0, 1] rfl) (R_marginOf_243_run hk9 hL h))
  · refine ai (r_icmp_ne_t (pc := 223) (tgt := 230) (by decide +kernel : decode k_R_marginOf.2.1 223 = .ok (.if_icmp .ne (7), 3)) (by decide) c1) ?_
    refine ai (p_aload_n (pc := 230) (k := 0) (by decide +kernel : decode k_R_marginOf.2.1 230 = .ok (.aload_n 0, 1)) rfl rfl) ?_
    refine ai (r_iload (pc := 231) (k := 3) (by decide +kernel : decode k_R_marginOf.2.1 231 = .ok (.iload 6, 2)) rfl) ?_
    refine ai (p_aload_n (pc := 233) (k := 0) (by decide +kernel : decode k_R_marginOf.2.1 233 = .ok (.aload_n 0, 1)) rfl rfl) ?_
    refine ai (p_getr (pc := 234) (RR_1567_0 hL) (by decide +kernel : decode k_R_marginOf.2.1 234 = .ok (.getfield 77, 3)) lg_12_77 (RC_0 hL).1) ?_
    refine ai (r_iload (pc := 237) (k := 2) (by decide +kernel : decode k_R_marginOf.2.1 237 = .ok (.iload 5, 2)) rfl) ?_
    obtain ⟨g2, h⟩ := gd_some h
    refine ai (p_iald (pc := 239) (by decide +kernel : decode k_R_marginOf.2.1 239 = .ok (.iaload, 1)) (RC_20 hL).1 (RC_20 hL).2 g2) ?_
    obtain ⟨r3, m4, hr3, h⟩ := bn_some h
    have q5 := R_rowOf_run hL hr3
    have c6 := (RC_0 hL).1
    have hL := q5.2
    refine ai (q_callV (pc := 240) (As := [.int x6, .int (aI m 20 (ix x5))]) (st := []) (st2 := [.int r3]) (b := 0) rfl rfl (by decide +kernel : decode k_R_marginOf.2.1 240 = .ok (.invokevirtual 494, 3)) lc_12_494 mo_R_rowOf ⟨Nat.le_of_ble_eq_true rfl, Nat.le_of_ble_eq_true rfl⟩ (Nat.le_of_ble_eq_true rfl) (Nat.le_of_ble_eq_true rfl) c6 q5.1) ?_
    exact (ai (r_sub [0, 1] rfl) (R_marginOf_243_run hk9 hL h))
set_option maxRecDepth 100000 in
set_option maxHeartbeats 4000000 in
theorem R_marginOf_164_run {k9 : Int32 → Int32 → Mem → Option (Int32 × Mem)} {n : Nat} {x3 : Int32} {x5 : Int32} {x6 : Int32} {x7 : Int32} {m m' : Mem} {r : Int32} (hk9 : ∀ (x2 : Int32) (x3 : Int32) (m : Mem) (r : Int32) (m' : Mem), RL m → k9 x2 x3 m = some (r, m') → Run k_R_marginOf 9 [(0, .ref 0), (2, .int x2), (3, .int x3)] [] m (some (.int r)) m' ∧ RL m') (hL : RL m) (h : R_marginOf_164 k9 n x3 x5 x6 x7 m = some (r, m')) : Run k_R_marginOf 164 [(0, .ref 0), (3, .int x3), (5, .int x5), (6, .int x6), (7, .int x7)] [] m (some (.int r)) m' ∧ RL m' := by
  induction n generalizing x3 x5 x6 x7 m r m' with
  | zero => exact absurd h (by simp [R_marginOf_164])
  | succ n ih =>
    rw [R_marginOf_164.eq_2] at h
    refine ai (r_iload (pc := 164) (k := 4) (by decide +kernel : decode k_R_marginOf.2.1 164 = .ok (.iload 7, 2)) rfl) ?_
    refine ai (p_aload_n (pc := 166) (k := 0) (by decide +kernel : decode k_R_marginOf.2.1 166 = .ok (.aload_n 0, 1)) rfl rfl) ?_
    refine ai (r_getI (pc := 167) (by decide +kernel : decode k_R_marginOf.2.1 167 = .ok (.getfield 341, 3)) lg_12_341 (by decide) (RC_0 hL).1) ?_
    rcases ite_some h with ⟨c1, h⟩ | ⟨c1, h⟩
    · refine ai (r_icmp_ge_t (pc := 170) (tgt := 220) (by decide +kernel : decode k_R_marginOf.2.1 170 = .ok (.if_icmp .ge (50), 3)) (by decide) c1) ?_
      exact (ai (r_sub [0, 1, 2, 3] rfl) (R_marginOf_220_run hk9 hL h))
    · refine ai (r_icmp_ge_f (pc := 170) 220 (by decide +kernel : decode k_R_marginOf.2.1 170 = .ok (.if_icmp .ge (50), 3)) (by decide) c1) ?_
      refine ai (p_aload_n (pc := 173) (k := 0) (by decide +kernel : decode k_R_marginOf.2.1 173 = .ok (.aload_n 0, 1)) rfl rfl) ?_
      refine ai (p_getr (pc := 174) (RR_1555_0 hL) (by decide +kernel : decode k_R_marginOf.2.1 174 = .ok (.getfield 40, 3)) lg_12_40 (RC_0 hL).1) ?_
      refine ai (r_iload (pc := 177) (k := 4) (by decide +kernel : decode k_R_marginOf.2.1 177 = .ok (.iload 7, 2)) rfl) ?_
      obtain ⟨g2, h⟩ := gd_some h
      refine ai (p_iald (pc := 179) (by decide +kernel : decode k_R_marginOf.2.1 179 = .ok (.iaload, 1)) (RC_8 hL).1 (RC_8 hL).2 g2) ?_
      rcases ite_some h with ⟨c3, h⟩ | ⟨c3, h⟩
      · refine ai (r_if_ne_f (pc := 180) 214 (by decide +kernel : decode k_R_marginOf.2.1 180 = .ok (.ifCond .ne (34), 3)) (by decide) c3) ?_
        refine ai (p_aload_n (pc := 183) (k := 0) (by decide +kernel : decode k_R_marginOf.2.1 183 = .ok (.aload_n 0, 1)) rfl rfl) ?_
        refine ai (p_getr (pc := 184) (RR_1615_0 hL) (by decide +kernel : decode k_R_marginOf.2.1 184 = .ok (.getfield 176, 3)) lg_12_176 (RC_0 hL).1) ?_
        refine ai (r_iload (pc := 187) (k := 4) (by decide +kernel : decode k_R_marginOf.2.1 187 = .ok (.iload 7, 2)) rfl) ?_
        obtain ⟨g4, h⟩ := gd_some h
        refine ai (p_zald (pc := 189) (by decide +kernel : decode k_R_marginOf.2.1 189 = .ok (.baload, 1)) (RC_52 hL).1 (RC_52 hL).2 g4) ?_
        rcases ite_some h with ⟨c5, h⟩ | ⟨c5, h⟩
        · refine ai (r_if_eq_t (pc := 190) (tgt := 214) (by decide +kernel : decode k_R_marginOf.2.1 190 = .ok (.ifCond .eq (24), 3)) (by decide) c5) ?_
          exact (R_marginOf_214_run hk9 (fun _ _ _ _ _ _ _ q1 q3 => ih q1 q3) hL h)
        · refine ai (r_if_eq_f (pc := 190) 214 (by decide +kernel : decode k_R_marginOf.2.1 190 = .ok (.ifCond .eq (24), 3)) (by decide) c5) ?_
          refine ai (p_aload_n (pc := 193) (k := 0) (by decide +kernel : decode k_R_marginOf.2.1 193 = .ok (.aload_n 0, 1)) rfl rfl) ?_
          refine ai (p_getr (pc := 194) (RR_1556_0 hL) (by decide +kernel : decode k_R_marginOf.2.1 194 = .ok (.getfield 43, 3)) lg_12_43 (RC_0 hL).1) ?_
          refine ai (r_iload (pc := 197) (k := 4) (by decide +kernel : decode k_R_marginOf.2.1 197 = .ok (.iload 7, 2)) rfl) ?_
          obtain ⟨g6, h⟩ := gd_some h
          refine ai (p_iald (pc := 199) (by decide +kernel : decode k_R_marginOf.2.1 199 = .ok (.iaload, 1)) (RC_9 hL).1 (RC_9 hL).2 g6) ?_
          refine ai (p_aload_n (pc := 200) (k := 0) (by decide +kernel : decode k_R_marginOf.2.1 200 = .ok (.aload_n 0, 1)) rfl rfl) ?_
          refine ai (p_getr (pc := 201) (RR_1566_0 hL) (by decide +kernel : decode k_R_marginOf.2.1 201 = .ok (.getfield 74, 3)) lg_12_74 (RC_0 hL).1) ?_
          refine ai (r_iload (pc := 204) (k := 2) (by decide +kernel : decode k_R_marginOf.2.1 204 = .ok (.iload 5, 2)) rfl) ?_
          obtain ⟨g7, h⟩ := gd_some h
          refine ai (p_iald (pc := 206) (by decide +kernel : decode k_R_marginOf.2.1 206 = .ok (.iaload, 1)) (RC_19 hL).1 (RC_19 hL).2 g7) ?_
          rcases ite_some h with ⟨c8, h⟩ | ⟨c8, h⟩
          · refine ai (r_icmp_ne_f (pc := 207) 214 (by decide +kernel : decode k_R_marginOf.2.1 207 = .ok (.if_icmp .ne (7), 3)) (by decide) c8) ?_
            refine ai (r_iload (pc := 210) (k := 4) (by decide +kernel : decode k_R_marginOf.2.1 210 = .ok (.iload 7, 2)) rfl) ?_
            refine ai (e_istore (pc := 212) rfl (by decide +kernel : decode k_R_marginOf.2.1 212 = .ok (.istore 6, 2)) (by decide) rfl) ?_
            exact (ai (r_sub [1, 2, 3, 0, 4] rfl) (R_marginOf_214_run hk9 (fun _ _ _ _ _ _ _ q1 q3 => ih q1 q3) hL h))
          · refine ai (r_icmp_ne_t (pc := 207) (tgt := 214) (by decide +kernel : decode k_R_marginOf.2.1 207 = .ok (.if_icmp .ne (7), 3)) (by decide) c8) ?_
            exact (R_marginOf_214_run hk9 (fun _ _ _ _ _ _ _ q1 q3 => ih q1 q3) hL h)
      · refine ai (r_if_ne_t (pc := 180) (tgt := 214) (by decide +kernel : decode k_R_marginOf.2.1 180 = .ok (.ifCond .ne (34), 3)) (by decide) c3) ?_
        exact (R_marginOf_214_run hk9 (fun _ _ _ _ _ _ _ q1 q3 => ih q1 q3) hL h)
set_option maxRecDepth 100000 in
set_option maxHeartbeats 4000000 in
theorem R_marginOf_86_run {k9 : Int32 → Int32 → Mem → Option (Int32 × Mem)} {x2 : Int32} {x3 : Int32} {x5 : Int32} {m m' : Mem} {r : Int32} (hk9 : ∀ (x2 : Int32) (x3 : Int32) (m : Mem) (r : Int32) (m' : Mem), RL m → k9 x2 x3 m = some (r, m') → Run k_R_marginOf 9 [(0, .ref 0), (2, .int x2), (3, .int x3)] [] m (some (.int r)) m' ∧ RL m') (hL : RL m) (h : R_marginOf_86 k9 x2 x3 x5 m = some (r, m')) : Run k_R_marginOf 86 [(0, .ref 0), (2, .int x2), (3, .int x3), (5, .int x5)] [] m (some (.int r)) m' ∧ RL m' := by
  unfold R_marginOf_86 at h
  refine ai (p_aload_n (pc := 86) (k := 0) (by decide +kernel : decode k_R_marginOf.2.1 86 = .ok (.aload_n 0, 1)) rfl rfl) ?_
  refine ai (p_getr (pc := 87) (RR_1618_0 hL) (by decide +kernel : decode k_R_marginOf.2.1 87 = .ok (.getfield 185, 3)) lg_12_185 (RC_0 hL).1) ?_
  refine ai (r_iload_n (pc := 90) (k := 1) (by decide +kernel : decode k_R_marginOf.2.1 90 = .ok (.iload_n 2, 1)) rfl rfl) ?_
  obtain ⟨g1, h⟩ := gd_some h
  refine ai (p_iald (pc := 91) (by decide +kernel : decode k_R_marginOf.2.1 91 = .ok (.iaload, 1)) (RC_55 hL).1 (RC_55 hL).2 g1) ?_
  refine ai (r_iconst (pc := 92) (by decide +kernel : decode k_R_marginOf.2.1 92 = .ok (.iconst (-1), 1)) ic_m1) ?_
  rcases ite_some h with ⟨c2, h⟩ | ⟨c2, h⟩
  · refine ai (r_icmp_eq_t (pc := 93) (tgt := 125) (by decide +kernel : decode k_R_marginOf.2.1 93 = .ok (.if_icmp .eq (32), 3)) (by decide) c2) ?_
    refine ai (r_iload_n (pc := 125) (k := 2) (by decide +kernel : decode k_R_marginOf.2.1 125 = .ok (.iload_n 3, 1)) rfl rfl) ?_
    refine ai (p_aload_n (pc := 126) (k := 0) (by decide +kernel : decode k_R_marginOf.2.1 126 = .ok (.aload_n 0, 1)) rfl rfl) ?_
    refine ai (p_aload_n (pc := 127) (k := 0) (by decide +kernel : decode k_R_marginOf.2.1 127 = .ok (.aload_n 0, 1)) rfl rfl) ?_
    refine ai (p_getr (pc := 128) (RR_1568_0 hL) (by decide +kernel : decode k_R_marginOf.2.1 128 = .ok (.getfield 80, 3)) lg_12_80 (RC_0 hL).1) ?_
    refine ai (r_iload (pc := 131) (k := 3) (by decide +kernel : decode k_R_marginOf.2.1 131 = .ok (.iload 5, 2)) rfl) ?_
    obtain ⟨g3, h⟩ := gd_some h
    refine ai (p_iald (pc := 133) (by decide +kernel : decode k_R_marginOf.2.1 133 = .ok (.iaload, 1)) (RC_21 hL).1 (RC_21 hL).2 g3) ?_
    refine ai (p_aload_n (pc := 134) (k := 0) (by decide +kernel : decode k_R_marginOf.2.1 134 = .ok (.aload_n 0, 1)) rfl rfl) ?_
    refine ai (p_getr (pc := 135) (RR_1569_0 hL) (by decide +kernel : decode k_R_marginOf.2.1 135 = .ok (.getfield 83, 3)) lg_12_83 (RC_0 hL).1) ?_
    refine ai (r_iload (pc := 138) (k := 3) (by decide +kernel : decode k_R_marginOf.2.1 138 = .ok (.iload 5, 2)) rfl) ?_
    obtain ⟨g4, h⟩ := gd_some h
    refine ai (p_iald (pc := 140) (by decide +kernel : decode k_R_marginOf.2.1 140 = .ok (.iaload, 1)) (RC_22 hL).1 (RC_22 hL).2 g4) ?_
    obtain ⟨r5, m6, hr5, h⟩ := bn_some h
    have q7 := R_termOf_run hL hr5
    have c8 := (RC_0 hL).1
    have hL := q7.2
    refine ai (q_callV (pc := 141) (As := [.int (aI m 21 (ix x5)), .int (aI m 22 (ix x5))]) (st := [.int x3]) (st2 := [.int r5, .int x3]) (b := 0) rfl rfl (by decide +kernel : decode k_R_marginOf.2.1 141 = .ok (.invokevirtual 471, 3)) lc_12_471 mo_R_termOf ⟨Nat.le_of_ble_eq_true rfl, Nat.le_of_ble_eq_true rfl⟩ (Nat.le_of_ble_eq_true rfl) (Nat.le_of_ble_eq_true rfl) c8 q7.1) ?_
    refine ai (r_iadd (pc := 144) (by decide +kernel : decode k_R_marginOf.2.1 144 = .ok (.iadd, 1))) ?_
    obtain ⟨v9, hv9, h⟩ := vb_some h
    refine ai (e_istore_n (pc := 145) hv9 (by decide +kernel : decode k_R_marginOf.2.1 145 = .ok (.istore_n 3, 1)) rfl (by decide) rfl) ?_
    refine ai (p_aload_n (pc := 146) (k := 1) (by decide +kernel : decode k_R_marginOf.2.1 146 = .ok (.aload_n 0, 1)) rfl rfl) ?_
    refine ai (p_getr (pc := 147) (RR_1565_0 hL) (by decide +kernel : decode k_R_marginOf.2.1 147 = .ok (.getfield 70, 3)) lg_12_70 (RC_0 hL).1) ?_
    refine ai (r_iload (pc := 150) (k := 3) (by decide +kernel : decode k_R_marginOf.2.1 150 = .ok (.iload 5, 2)) rfl) ?_
    obtain ⟨g10, h⟩ := gd_some h
    refine ai (p_zald (pc := 152) (by decide +kernel : decode k_R_marginOf.2.1 152 = .ok (.baload, 1)) (RC_18 hL).1 (RC_18 hL).2 g10) ?_
    rcases ite_some h with ⟨c11, h⟩ | ⟨c11, h⟩
    · refine ai (r_if_ne_f (pc := 153) 158 (by decide +kernel : decode k_R_marginOf.2.1 153 = .ok (.ifCond .ne (5), 3)) (by decide) c11) ?_
      refine ai (r_iload_n (pc := 156) (k := 0) (by decide +kernel : decode k_R_marginOf.2.1 156 = .ok (.iload_n 3, 1)) rfl rfl) ?_
      cases h
      exact ⟨r_iret rfl (by decide +kernel : decode k_R_marginOf.2.1 157 = .ok (.ireturn, 1)), hL⟩
    · refine ai (r_if_ne_t (pc := 153) (tgt := 158) (by decide +kernel : decode k_R_marginOf.2.1 153 = .ok (.ifCond .ne (5), 3)) (by decide) c11) ?_
      refine ai (r_iconst (pc := 158) (by decide +kernel : decode k_R_marginOf.2.1 158 = .ok (.iconst (-1), 1)) ic_m1) ?_
      refine ai (e_istore (pc := 159) rfl (by decide +kernel : decode k_R_marginOf.2.1 159 = .ok (.istore 6, 2)) (by decide) rfl) ?_
      refine ai (r_iconst (pc := 161) (by decide +kernel : decode k_R_marginOf.2.1 161 = .ok (.iconst 0, 1)) ic_0) ?_
      refine ai (e_istore (pc := 162) rfl (by decide +kernel : decode k_R_marginOf.2.1 162 = .ok (.istore 7, 2)) (by decide) rfl) ?_
      exact (ai (r_sub [3, 2, 5, 1, 0] rfl) (R_marginOf_164_run hk9 hL h))
  · refine ai (r_icmp_eq_f (pc := 93) 125 (by decide +kernel : decode k_R_marginOf.2.1 93 = .ok (.if_icmp .eq (32), 3)) (by decide) c2) ?_
    exact (ai (r_sub [0, 1, 2] rfl) (R_marginOf_96_run hL h))
set_option maxRecDepth 100000 in
set_option maxHeartbeats 4000000 in
theorem R_marginOf_9_run {n : Nat} {x2 : Int32} {x3 : Int32} {m m' : Mem} {r : Int32} (hL : RL m) (h : R_marginOf_9 n x2 x3 m = some (r, m')) : Run k_R_marginOf 9 [(0, .ref 0), (2, .int x2), (3, .int x3)] [] m (some (.int r)) m' ∧ RL m' := by
  induction n generalizing x2 x3 m r m' with
  | zero => exact absurd h (by simp [R_marginOf_9])
  | succ n ih =>
    rw [R_marginOf_9.eq_2] at h
    refine ai (r_iload_n (pc := 9) (k := 1) (by decide +kernel : decode k_R_marginOf.2.1 9 = .ok (.iload_n 2, 1)) rfl rfl) ?_
    refine ai (r_iconst (pc := 10) (by decide +kernel : decode k_R_marginOf.2.1 10 = .ok (.iconst (-1), 1)) ic_m1) ?_
    rcases ite_some h with ⟨c1, h⟩ | ⟨c1, h⟩
    · refine ai (r_icmp_eq_t (pc := 11) (tgt := 269) (by decide +kernel : decode k_R_marginOf.2.1 11 = .ok (.if_icmp .eq (258), 3)) (by decide) c1) ?_
      refine ai (r_iload_n (pc := 269) (k := 2) (by decide +kernel : decode k_R_marginOf.2.1 269 = .ok (.iload_n 3, 1)) rfl rfl) ?_
      cases h
      exact ⟨r_iret rfl (by decide +kernel : decode k_R_marginOf.2.1 270 = .ok (.ireturn, 1)), hL⟩
    · refine ai (r_icmp_eq_f (pc := 11) 269 (by decide +kernel : decode k_R_marginOf.2.1 11 = .ok (.if_icmp .eq (258), 3)) (by decide) c1) ?_
      refine ai (p_aload_n (pc := 14) (k := 0) (by decide +kernel : decode k_R_marginOf.2.1 14 = .ok (.aload_n 0, 1)) rfl rfl) ?_
      refine ai (r_iload_n (pc := 15) (k := 1) (by decide +kernel : decode k_R_marginOf.2.1 15 = .ok (.iload_n 2, 1)) rfl rfl) ?_
      obtain ⟨r2, m3, hr2, h⟩ := bn_some h
      have q4 := R_isCome_run hL hr2
      have c5 := (RC_0 hL).1
      have hL := q4.2
      refine ai (q_callV (pc := 16) (As := [.int x2]) (st := []) (st2 := [.int r2]) (b := 0) rfl rfl (by decide +kernel : decode k_R_marginOf.2.1 16 = .ok (.invokevirtual 506, 3)) lc_12_506 mo_R_isCome ⟨Nat.le_of_ble_eq_true rfl, Nat.le_of_ble_eq_true rfl⟩ (Nat.le_of_ble_eq_true rfl) (Nat.le_of_ble_eq_true rfl) c5 q4.1) ?_
      rcases ite_some h with ⟨c6, h⟩ | ⟨c6, h⟩
      · refine ai (r_if_ne_f (pc := 19) 269 (by decide +kernel : decode k_R_marginOf.2.1 19 = .ok (.ifCond .ne (250), 3)) (by decide) c6) ?_
        refine ai (p_aload_n (pc := 22) (k := 0) (by decide +kernel : decode k_R_marginOf.2.1 22 = .ok (.aload_n 0, 1)) rfl rfl) ?_
        refine ai (p_getr (pc := 23) (RR_1626_0 hL) (by decide +kernel : decode k_R_marginOf.2.1 23 = .ok (.getfield 200, 3)) lg_12_200 (RC_0 hL).1) ?_
        refine ai (p_aload_n (pc := 26) (k := 0) (by decide +kernel : decode k_R_marginOf.2.1 26 = .ok (.aload_n 0, 1)) rfl rfl) ?_
        refine ai (r_getI (pc := 27) (by decide +kernel : decode k_R_marginOf.2.1 27 = .ok (.getfield 503, 3)) lg_12_503 (by decide) (RC_0 hL).1) ?_
        refine ai (r_iload_n (pc := 30) (k := 1) (by decide +kernel : decode k_R_marginOf.2.1 30 = .ok (.iload_n 2, 1)) rfl rfl) ?_
        obtain ⟨g7, h⟩ := gd_some h
        have c8 := (RC_59 hL).1
        have c9 := (RC_59 hL).2
        obtain ⟨m10, hm10, h⟩ := vb_some h
        have hL : RL m10 := by rw [hm10]; exact hL
        refine ai (p_iast (pc := 31) hm10 (by decide +kernel : decode k_R_marginOf.2.1 31 = .ok (.iastore, 1)) c8 c9 g7) ?_
        refine ai (p_aload_n (pc := 32) (k := 0) (by decide +kernel : decode k_R_marginOf.2.1 32 = .ok (.aload_n 0, 1)) rfl rfl) ?_
        refine ai (r_dup (pc := 33) (by decide +kernel : decode k_R_marginOf.2.1 33 = .ok (.dup, 1)) (rfl)) ?_
        refine ai (r_getI (pc := 34) (by decide +kernel : decode k_R_marginOf.2.1 34 = .ok (.getfield 503, 3)) lg_12_503 (by decide) (RC_0 hL).1) ?_
        refine ai (r_iconst (pc := 37) (by decide +kernel : decode k_R_marginOf.2.1 37 = .ok (.iconst 1, 1)) ic_1) ?_
        refine ai (r_iadd (pc := 38) (by decide +kernel : decode k_R_marginOf.2.1 38 = .ok (.iadd, 1))) ?_
        have c11 := (RC_0 hL).1
        obtain ⟨m12, hm12, h⟩ := vb_some h
        have hL : RL m12 := by rw [hm12]; exact hL
        refine ai (p_putI (pc := 39) hm12 (by decide +kernel : decode k_R_marginOf.2.1 39 = .ok (.putfield 503, 3)) lp_12_503 c11) ?_
        refine ai (r_iload_n (pc := 42) (k := 1) (by decide +kernel : decode k_R_marginOf.2.1 42 = .ok (.iload_n 2, 1)) rfl rfl) ?_
        refine ai (r_bipush (pc := 43) (by decide +kernel : decode k_R_marginOf.2.1 43 = .ok (.bipush (64), 2)) (by decide : _ = (64 : Int32))) ?_
        refine ai (r_idiv (pc := 45) (by decide +kernel : decode k_R_marginOf.2.1 45 = .ok (.idiv, 1)) (by decide)) ?_
        obtain ⟨v13, hv13, h⟩ := vb_some h
        refine ai (e_istore (pc := 46) hv13 (by decide +kernel : decode k_R_marginOf.2.1 46 = .ok (.istore 4, 2)) (by decide) rfl) ?_
        refine ai (p_aload_n (pc := 48) (k := 1) (by decide +kernel : decode k_R_marginOf.2.1 48 = .ok (.aload_n 0, 1)) rfl rfl) ?_
        refine ai (p_getr (pc := 49) (RR_1617_0 hL) (by decide +kernel : decode k_R_marginOf.2.1 49 = .ok (.getfield 182, 3)) lg_12_182 (RC_0 hL).1) ?_
        refine ai (r_iload_n (pc := 52) (k := 2) (by decide +kernel : decode k_R_marginOf.2.1 52 = .ok (.iload_n 2, 1)) rfl rfl) ?_
        obtain ⟨g14, h⟩ := gd_some h
        refine ai (p_iald (pc := 53) (by decide +kernel : decode k_R_marginOf.2.1 53 = .ok (.iaload, 1)) (RC_54 hL).1 (RC_54 hL).2 g14) ?_
        obtain ⟨v15, hv15, h⟩ := vb_some h
        refine ai (e_istore (pc := 54) hv15 (by decide +kernel : decode k_R_marginOf.2.1 54 = .ok (.istore 5, 2)) (by decide) rfl) ?_
        refine ai (r_iload (pc := 56) (k := 1) (by decide +kernel : decode k_R_marginOf.2.1 56 = .ok (.iload 4, 2)) rfl) ?_
        refine ai (p_aload_n (pc := 58) (k := 2) (by decide +kernel : decode k_R_marginOf.2.1 58 = .ok (.aload_n 0, 1)) rfl rfl) ?_
        refine ai (r_getI (pc := 59) (by decide +kernel : decode k_R_marginOf.2.1 59 = .ok (.getfield 197, 3)) lg_12_197 (by decide) (RC_0 hL).1) ?_
        rcases ite_some h with ⟨c16, h⟩ | ⟨c16, h⟩
        · refine ai (r_icmp_ne_f (pc := 62) 86 (by decide +kernel : decode k_R_marginOf.2.1 62 = .ok (.if_icmp .ne (24), 3)) (by decide) c16) ?_
          refine ai (p_aload_n (pc := 65) (k := 2) (by decide +kernel : decode k_R_marginOf.2.1 65 = .ok (.aload_n 0, 1)) rfl rfl) ?_
          refine ai (p_getr (pc := 66) (RR_1563_0 hL) (by decide +kernel : decode k_R_marginOf.2.1 66 = .ok (.getfield 64, 3)) lg_12_64 (RC_0 hL).1) ?_
          refine ai (r_iload (pc := 69) (k := 0) (by decide +kernel : decode k_R_marginOf.2.1 69 = .ok (.iload 5, 2)) rfl) ?_
          obtain ⟨g17, h⟩ := gd_some h
          refine ai (p_iald (pc := 71) (by decide +kernel : decode k_R_marginOf.2.1 71 = .ok (.iaload, 1)) (RC_16 hL).1 (RC_16 hL).2 g17) ?_
          refine ai (p_aload_n (pc := 72) (k := 2) (by decide +kernel : decode k_R_marginOf.2.1 72 = .ok (.aload_n 0, 1)) rfl rfl) ?_
          refine ai (r_getI (pc := 73) (by decide +kernel : decode k_R_marginOf.2.1 73 = .ok (.getfield 509, 3)) lg_12_509 (by decide) (RC_0 hL).1) ?_
          rcases ite_some h with ⟨c18, h⟩ | ⟨c18, h⟩
          · refine ai (r_icmp_ne_f (pc := 76) 86 (by decide +kernel : decode k_R_marginOf.2.1 76 = .ok (.if_icmp .ne (10), 3)) (by decide) c18) ?_
            exact (ai (r_sub [2, 4] rfl) (R_marginOf_79_run hL h))
          · refine ai (r_icmp_ne_t (pc := 76) (tgt := 86) (by decide +kernel : decode k_R_marginOf.2.1 76 = .ok (.if_icmp .ne (10), 3)) (by decide) c18) ?_
            exact (ai (r_sub [2, 3, 4, 0] rfl) (R_marginOf_86_run (fun _ _ _ _ _ q1 q3 => ih q1 q3) hL h))
        · refine ai (r_icmp_ne_t (pc := 62) (tgt := 86) (by decide +kernel : decode k_R_marginOf.2.1 62 = .ok (.if_icmp .ne (24), 3)) (by decide) c16) ?_
          exact (ai (r_sub [2, 3, 4, 0] rfl) (R_marginOf_86_run (fun _ _ _ _ _ q1 q3 => ih q1 q3) hL h))
      · refine ai (r_if_ne_t (pc := 19) (tgt := 269) (by decide +kernel : decode k_R_marginOf.2.1 19 = .ok (.ifCond .ne (250), 3)) (by decide) c6) ?_
        refine ai (r_iload_n (pc := 269) (k := 2) (by decide +kernel : decode k_R_marginOf.2.1 269 = .ok (.iload_n 3, 1)) rfl rfl) ?_
        cases h
        exact ⟨r_iret rfl (by decide +kernel : decode k_R_marginOf.2.1 270 = .ok (.ireturn, 1)), hL⟩
set_option maxRecDepth 100000 in
set_option maxHeartbeats 4000000 in
theorem R_marginOf_run {x1 : Int32} {m m' : Mem} {r : Int32} (hL : RL m) (h : R_marginOf x1 m = some (r, m')) : Run k_R_marginOf 0 [(0, .ref 0), (1, .int x1)] [] m (some (.int r)) m' ∧ RL m' := by
  unfold R_marginOf at h
  refine ai (p_aload_n (pc := 0) (k := 0) (by decide +kernel : decode k_R_marginOf.2.1 0 = .ok (.aload_n 0, 1)) rfl rfl) ?_
  refine ai (r_iconst (pc := 1) (by decide +kernel : decode k_R_marginOf.2.1 1 = .ok (.iconst 0, 1)) ic_0) ?_
  have c1 := (RC_0 hL).1
  obtain ⟨m2, hm2, h⟩ := vb_some h
  have hL : RL m2 := by rw [hm2]; exact hL
  refine ai (p_putI (pc := 2) hm2 (by decide +kernel : decode k_R_marginOf.2.1 2 = .ok (.putfield 503, 3)) lp_12_503 c1) ?_
  refine ai (r_iload_n (pc := 5) (k := 1) (by decide +kernel : decode k_R_marginOf.2.1 5 = .ok (.iload_n 1, 1)) rfl rfl) ?_
  refine ai (e_istore_n (pc := 6) rfl (by decide +kernel : decode k_R_marginOf.2.1 6 = .ok (.istore_n 2, 1)) rfl (by decide) rfl) ?_
  refine ai (r_iconst (pc := 7) (by decide +kernel : decode k_R_marginOf.2.1 7 = .ok (.iconst 0, 1)) ic_0) ?_
  refine ai (e_istore_n (pc := 8) rfl (by decide +kernel : decode k_R_marginOf.2.1 8 = .ok (.istore_n 3, 1)) rfl (by decide) rfl) ?_
  exact (ai (r_sub [2, 1, 0] rfl) (R_marginOf_9_run hL h))
set_option maxRecDepth 100000 in
set_option maxHeartbeats 4000000 in
theorem R_held_run {x0 : Int32} {x1 : Int32} {x2 : Int32} {m : Mem} {r : Int32} (h : R_held x0 x1 x2 = some r) : Run k_R_held 0 [(0, .int x0), (1, .int x1), (2, .int x2)] [] m (some (.int r)) m := by
  unfold R_held at h
  refine (r_iload_n (pc := 0) (k := 0) (by decide +kernel : decode k_R_held.2.1 0 = .ok (.iload_n 0, 1)) rfl rfl) ?_
  refine (r_iload_n (pc := 1) (k := 1) (by decide +kernel : decode k_R_held.2.1 1 = .ok (.iload_n 1, 1)) rfl rfl) ?_
  rcases ite_some h with ⟨c1, h⟩ | ⟨c1, h⟩
  · refine (r_icmp_ge_t (pc := 2) (tgt := 9) (by decide +kernel : decode k_R_held.2.1 2 = .ok (.if_icmp .ge (7), 3)) (by decide) c1) ?_
    refine (r_iload_n (pc := 9) (k := 0) (by decide +kernel : decode k_R_held.2.1 9 = .ok (.iload_n 0, 1)) rfl rfl) ?_
    refine (r_iload_n (pc := 10) (k := 2) (by decide +kernel : decode k_R_held.2.1 10 = .ok (.iload_n 2, 1)) rfl rfl) ?_
    rcases ite_some h with ⟨c2, h⟩ | ⟨c2, h⟩
    · refine (r_icmp_le_t (pc := 11) (tgt := 18) (by decide +kernel : decode k_R_held.2.1 11 = .ok (.if_icmp .le (7), 3)) (by decide) c2) ?_
      refine (r_iload_n (pc := 18) (k := 0) (by decide +kernel : decode k_R_held.2.1 18 = .ok (.iload_n 0, 1)) rfl rfl) ?_
      cases h
      exact r_iret rfl (by decide +kernel : decode k_R_held.2.1 19 = .ok (.ireturn, 1))
    · refine (r_icmp_le_f (pc := 11) 18 (by decide +kernel : decode k_R_held.2.1 11 = .ok (.if_icmp .le (7), 3)) (by decide) c2) ?_
      refine (r_iload_n (pc := 14) (k := 2) (by decide +kernel : decode k_R_held.2.1 14 = .ok (.iload_n 2, 1)) rfl rfl) ?_
      refine (r_goto (pc := 15) (tgt := 19) (by decide +kernel : decode k_R_held.2.1 15 = .ok (.goto (4), 3)) (by decide)) ?_
      cases h
      exact r_iret rfl (by decide +kernel : decode k_R_held.2.1 19 = .ok (.ireturn, 1))
  · refine (r_icmp_ge_f (pc := 2) 9 (by decide +kernel : decode k_R_held.2.1 2 = .ok (.if_icmp .ge (7), 3)) (by decide) c1) ?_
    refine (r_iload_n (pc := 5) (k := 1) (by decide +kernel : decode k_R_held.2.1 5 = .ok (.iload_n 1, 1)) rfl rfl) ?_
    refine (r_goto (pc := 6) (tgt := 19) (by decide +kernel : decode k_R_held.2.1 6 = .ok (.goto (13), 3)) (by decide)) ?_
    cases h
    exact r_iret rfl (by decide +kernel : decode k_R_held.2.1 19 = .ok (.ireturn, 1))
set_option maxRecDepth 100000 in
set_option maxHeartbeats 4000000 in
theorem R_heldMargin_run {x1 : Int32} {x2 : Int32} {m m' : Mem} {r : Int32} (hL : RL m) (h : R_heldMargin x1 x2 m = some (r, m')) : Run k_R_heldMargin 0 [(0, .ref 0), (1, .int x1), (2, .int x2)] [] m (some (.int r)) m' ∧ RL m' := by
  unfold R_heldMargin at h
  refine ai (p_aload_n (pc := 0) (k := 0) (by decide +kernel : decode k_R_heldMargin.2.1 0 = .ok (.aload_n 0, 1)) rfl rfl) ?_
  refine ai (p_aload_n (pc := 1) (k := 0) (by decide +kernel : decode k_R_heldMargin.2.1 1 = .ok (.aload_n 0, 1)) rfl rfl) ?_
  refine ai (r_getI (pc := 2) (by decide +kernel : decode k_R_heldMargin.2.1 2 = .ok (.getfield 173, 3)) lg_12_173 (by decide) (RC_0 hL).1) ?_
  refine ai (p_aload_n (pc := 5) (k := 0) (by decide +kernel : decode k_R_heldMargin.2.1 5 = .ok (.aload_n 0, 1)) rfl rfl) ?_
  refine ai (r_getI (pc := 6) (by decide +kernel : decode k_R_heldMargin.2.1 6 = .ok (.getfield 477, 3)) lg_12_477 (by decide) (RC_0 hL).1) ?_
  refine ai (p_aload_n (pc := 9) (k := 0) (by decide +kernel : decode k_R_heldMargin.2.1 9 = .ok (.aload_n 0, 1)) rfl rfl) ?_
  refine ai (r_getI (pc := 10) (by decide +kernel : decode k_R_heldMargin.2.1 10 = .ok (.getfield 480, 3)) lg_12_480 (by decide) (RC_0 hL).1) ?_
  obtain ⟨r1, m2, hr1, h⟩ := bn_some h
  have q3 := R_stands_run hL hr1
  have c4 := (RC_0 hL).1
  have hL := q3.2
  refine ai (q_callV (pc := 13) (As := [.int (mI m 1612 0), .int (mI m 1613 0), .int (mI m 1614 0)]) (st := []) (st2 := []) (b := 0) rfl rfl (by decide +kernel : decode k_R_heldMargin.2.1 13 = .ok (.invokevirtual 491, 3)) lc_12_491 mo_R_stands ⟨Nat.le_of_ble_eq_true rfl, Nat.le_of_ble_eq_true rfl⟩ (Nat.le_of_ble_eq_true rfl) (Nat.le_of_ble_eq_true rfl) c4 q3.1) ?_
  refine ai (p_aload_n (pc := 16) (k := 0) (by decide +kernel : decode k_R_heldMargin.2.1 16 = .ok (.aload_n 0, 1)) rfl rfl) ?_
  refine ai (p_getr (pc := 17) (RR_1608_0 hL) (by decide +kernel : decode k_R_heldMargin.2.1 17 = .ok (.getfield 167, 3)) lg_12_167 (RC_0 hL).1) ?_
  refine ai (r_iconst (pc := 20) (by decide +kernel : decode k_R_heldMargin.2.1 20 = .ok (.iconst 1, 1)) ic_1) ?_
  refine ai (r_iload_n (pc := 21) (k := 2) (by decide +kernel : decode k_R_heldMargin.2.1 21 = .ok (.iload_n 2, 1)) rfl rfl) ?_
  obtain ⟨g5, h⟩ := gd_some h
  have c6 := (RC_50 hL).1
  have c7 := (RC_50 hL).2
  obtain ⟨m8, hm8, h⟩ := vb_some h
  have hL : RL m8 := by rw [hm8]; exact hL
  refine ai (p_iast (pc := 22) hm8 (by decide +kernel : decode k_R_heldMargin.2.1 22 = .ok (.iastore, 1)) c6 c7 g5) ?_
  refine ai (p_aload_n (pc := 23) (k := 0) (by decide +kernel : decode k_R_heldMargin.2.1 23 = .ok (.aload_n 0, 1)) rfl rfl) ?_
  refine ai (r_iload_n (pc := 24) (k := 1) (by decide +kernel : decode k_R_heldMargin.2.1 24 = .ok (.iload_n 1, 1)) rfl rfl) ?_
  obtain ⟨r9, m10, hr9, h⟩ := bn_some h
  have q11 := R_marginOf_run hL hr9
  have c12 := (RC_0 hL).1
  have hL := q11.2
  refine ai (q_callV (pc := 25) (As := [.int x1]) (st := []) (st2 := [.int r9]) (b := 0) rfl rfl (by decide +kernel : decode k_R_heldMargin.2.1 25 = .ok (.invokevirtual 515, 3)) lc_12_515 mo_R_marginOf ⟨Nat.le_of_ble_eq_true rfl, Nat.le_of_ble_eq_true rfl⟩ (Nat.le_of_ble_eq_true rfl) (Nat.le_of_ble_eq_true rfl) c12 q11.1) ?_
  refine ai (r_sipush (pc := 28) (by decide +kernel : decode k_R_heldMargin.2.1 28 = .ok (.sipush (-9999), 3)) (by decide : _ = (-9999 : Int32))) ?_
  refine ai (r_sipush (pc := 31) (by decide +kernel : decode k_R_heldMargin.2.1 31 = .ok (.sipush (9999), 3)) (by decide : _ = (9999 : Int32))) ?_
  obtain ⟨r13, hr13, h⟩ := bp_some h
  refine ai (q_callS (pc := 34) (As := [.int r9, .int (-9999), .int 9999]) (st := []) (st2 := [.int r13]) rfl rfl (by decide +kernel : decode k_R_heldMargin.2.1 34 = .ok (.invokestatic 518, 3)) lc_12_518 mo_R_held ⟨Nat.le_of_ble_eq_true rfl, Nat.le_of_ble_eq_true rfl⟩ (Nat.le_of_ble_eq_true rfl) (Nat.le_of_ble_eq_true rfl) (R_held_run hr13)) ?_
  cases h
  exact ⟨r_iret rfl (by decide +kernel : decode k_R_heldMargin.2.1 37 = .ok (.ireturn, 1)), hL⟩
set_option maxRecDepth 100000 in
set_option maxHeartbeats 4000000 in
theorem R_margin_56_run {m m' : Mem} {r : Int32} (hL : RL m) (h : R_margin_56 m = some (r, m')) : Run k_R_margin 56 [] [] m (some (.int r)) m' ∧ RL m' := by
  unfold R_margin_56 at h
  refine ai (r_ldc_w (pc := 56) (by decide +kernel : decode k_R_margin.2.1 56 = .ok (.ldc_w 530, 3)) lk_12_530) ?_
  refine ai (r_goto (pc := 59) (tgt := 69) (by decide +kernel : decode k_R_margin.2.1 59 = .ok (.goto (10), 3)) (by decide)) ?_
  cases h
  exact ⟨r_iret rfl (by decide +kernel : decode k_R_margin.2.1 69 = .ok (.ireturn, 1)), hL⟩
set_option maxRecDepth 100000 in
set_option maxHeartbeats 4000000 in
theorem R_margin_run {x1 : Int32} {x2 : Int32} {x3 : Int32} {x4 : Int32} {x5 : Int32} {m m' : Mem} {r : Int32} (hL : RL m) (h : R_margin x1 x2 x3 x4 x5 m = some (r, m')) : Run k_R_margin 0 [(0, .ref 0), (1, .int x1), (2, .int x2), (3, .int x3), (4, .int x4), (5, .int x5)] [] m (some (.int r)) m' ∧ RL m' := by
  unfold R_margin at h
  refine ai (p_aload_n (pc := 0) (k := 0) (by decide +kernel : decode k_R_margin.2.1 0 = .ok (.aload_n 0, 1)) rfl rfl) ?_
  refine ai (r_iload_n (pc := 1) (k := 1) (by decide +kernel : decode k_R_margin.2.1 1 = .ok (.iload_n 1, 1)) rfl rfl) ?_
  refine ai (r_iload_n (pc := 2) (k := 3) (by decide +kernel : decode k_R_margin.2.1 2 = .ok (.iload_n 3, 1)) rfl rfl) ?_
  refine ai (r_iload (pc := 3) (k := 4) (by decide +kernel : decode k_R_margin.2.1 3 = .ok (.iload 4, 2)) rfl) ?_
  refine ai (r_iload (pc := 5) (k := 5) (by decide +kernel : decode k_R_margin.2.1 5 = .ok (.iload 5, 2)) rfl) ?_
  obtain ⟨r1, m2, hr1, h⟩ := bn_some h
  have q3 := R_isWhole_run hL hr1
  have c4 := (RC_0 hL).1
  have hL := q3.2
  refine ai (q_callV (pc := 7) (As := [.int x1, .int x3, .int x4, .int x5]) (st := []) (st2 := [.int r1]) (b := 0) rfl rfl (by decide +kernel : decode k_R_margin.2.1 7 = .ok (.invokevirtual 527, 3)) lc_12_527 mo_R_isWhole ⟨Nat.le_of_ble_eq_true rfl, Nat.le_of_ble_eq_true rfl⟩ (Nat.le_of_ble_eq_true rfl) (Nat.le_of_ble_eq_true rfl) c4 q3.1) ?_
  rcases ite_some h with ⟨c5, h⟩ | ⟨c5, h⟩
  · refine ai (r_if_ne_f (pc := 10) 17 (by decide +kernel : decode k_R_margin.2.1 10 = .ok (.ifCond .ne (7), 3)) (by decide) c5) ?_
    refine ai (r_ldc_w (pc := 13) (by decide +kernel : decode k_R_margin.2.1 13 = .ok (.ldc_w 530, 3)) lk_12_530) ?_
    cases h
    exact ⟨r_iret rfl (by decide +kernel : decode k_R_margin.2.1 16 = .ok (.ireturn, 1)), hL⟩
  · refine ai (r_if_ne_t (pc := 10) (tgt := 17) (by decide +kernel : decode k_R_margin.2.1 10 = .ok (.ifCond .ne (7), 3)) (by decide) c5) ?_
    refine ai (p_aload_n (pc := 17) (k := 0) (by decide +kernel : decode k_R_margin.2.1 17 = .ok (.aload_n 0, 1)) rfl rfl) ?_
    refine ai (p_aload_n (pc := 18) (k := 0) (by decide +kernel : decode k_R_margin.2.1 18 = .ok (.aload_n 0, 1)) rfl rfl) ?_
    refine ai (p_getr (pc := 19) (RR_1603_0 hL) (by decide +kernel : decode k_R_margin.2.1 19 = .ok (.getfield 152, 3)) lg_12_152 (RC_0 hL).1) ?_
    refine ai (r_iload_n (pc := 22) (k := 1) (by decide +kernel : decode k_R_margin.2.1 22 = .ok (.iload_n 1, 1)) rfl rfl) ?_
    obtain ⟨g6, h⟩ := gd_some h
    refine ai (p_iald (pc := 23) (by decide +kernel : decode k_R_margin.2.1 23 = .ok (.iaload, 1)) (RC_45 hL).1 (RC_45 hL).2 g6) ?_
    refine ai (r_iload_n (pc := 24) (k := 2) (by decide +kernel : decode k_R_margin.2.1 24 = .ok (.iload_n 2, 1)) rfl rfl) ?_
    obtain ⟨r7, m8, hr7, h⟩ := bn_some h
    have q9 := R_rowOf_run hL hr7
    have c10 := (RC_0 hL).1
    have hL := q9.2
    refine ai (q_callV (pc := 25) (As := [.int (aI m2 45 (ix x1)), .int x2]) (st := []) (st2 := [.int r7]) (b := 0) rfl rfl (by decide +kernel : decode k_R_margin.2.1 25 = .ok (.invokevirtual 494, 3)) lc_12_494 mo_R_rowOf ⟨Nat.le_of_ble_eq_true rfl, Nat.le_of_ble_eq_true rfl⟩ (Nat.le_of_ble_eq_true rfl) (Nat.le_of_ble_eq_true rfl) c10 q9.1) ?_
    refine ai (e_istore (pc := 28) rfl (by decide +kernel : decode k_R_margin.2.1 28 = .ok (.istore 6, 2)) (by decide) rfl) ?_
    refine ai (r_iload (pc := 30) (k := 0) (by decide +kernel : decode k_R_margin.2.1 30 = .ok (.iload 6, 2)) rfl) ?_
    refine ai (r_iconst (pc := 32) (by decide +kernel : decode k_R_margin.2.1 32 = .ok (.iconst (-1), 1)) ic_m1) ?_
    rcases ite_some h with ⟨c11, h⟩ | ⟨c11, h⟩
    · refine ai (r_icmp_eq_t (pc := 33) (tgt := 56) (by decide +kernel : decode k_R_margin.2.1 33 = .ok (.if_icmp .eq (23), 3)) (by decide) c11) ?_
      exact (ai (r_sub [] rfl) (R_margin_56_run hL h))
    · refine ai (r_icmp_eq_f (pc := 33) 56 (by decide +kernel : decode k_R_margin.2.1 33 = .ok (.if_icmp .eq (23), 3)) (by decide) c11) ?_
      refine ai (r_iload_n (pc := 36) (k := 3) (by decide +kernel : decode k_R_margin.2.1 36 = .ok (.iload_n 2, 1)) rfl rfl) ?_
      rcases ite_some h with ⟨c12, h⟩ | ⟨c12, h⟩
      · refine ai (r_if_lt_t (pc := 37) (tgt := 56) (by decide +kernel : decode k_R_margin.2.1 37 = .ok (.ifCond .lt (19), 3)) (by decide) c12) ?_
        exact (ai (r_sub [] rfl) (R_margin_56_run hL h))
      · refine ai (r_if_lt_f (pc := 37) 56 (by decide +kernel : decode k_R_margin.2.1 37 = .ok (.ifCond .lt (19), 3)) (by decide) c12) ?_
        refine ai (p_aload_n (pc := 40) (k := 1) (by decide +kernel : decode k_R_margin.2.1 40 = .ok (.aload_n 0, 1)) rfl rfl) ?_
        refine ai (p_getr (pc := 41) (RR_1562_0 hL) (by decide +kernel : decode k_R_margin.2.1 41 = .ok (.getfield 61, 3)) lg_12_61 (RC_0 hL).1) ?_
        refine ai (p_aload_n (pc := 44) (k := 1) (by decide +kernel : decode k_R_margin.2.1 44 = .ok (.aload_n 0, 1)) rfl rfl) ?_
        refine ai (p_getr (pc := 45) (RR_1617_0 hL) (by decide +kernel : decode k_R_margin.2.1 45 = .ok (.getfield 182, 3)) lg_12_182 (RC_0 hL).1) ?_
        refine ai (r_iload (pc := 48) (k := 0) (by decide +kernel : decode k_R_margin.2.1 48 = .ok (.iload 6, 2)) rfl) ?_
        obtain ⟨g13, h⟩ := gd_some h
        refine ai (p_iald (pc := 50) (by decide +kernel : decode k_R_margin.2.1 50 = .ok (.iaload, 1)) (RC_54 hL).1 (RC_54 hL).2 g13) ?_
        obtain ⟨g14, h⟩ := gd_some h
        refine ai (p_iald (pc := 51) (by decide +kernel : decode k_R_margin.2.1 51 = .ok (.iaload, 1)) (RC_15 hL).1 (RC_15 hL).2 g14) ?_
        refine ai (r_iconst (pc := 52) (by decide +kernel : decode k_R_margin.2.1 52 = .ok (.iconst 2, 1)) ic_2) ?_
        rcases ite_some h with ⟨c15, h⟩ | ⟨c15, h⟩
        · refine ai (r_icmp_eq_t (pc := 53) (tgt := 62) (by decide +kernel : decode k_R_margin.2.1 53 = .ok (.if_icmp .eq (9), 3)) (by decide) c15) ?_
          refine ai (p_aload_n (pc := 62) (k := 1) (by decide +kernel : decode k_R_margin.2.1 62 = .ok (.aload_n 0, 1)) rfl rfl) ?_
          refine ai (r_iload (pc := 63) (k := 0) (by decide +kernel : decode k_R_margin.2.1 63 = .ok (.iload 6, 2)) rfl) ?_
          refine ai (r_iconst (pc := 65) (by decide +kernel : decode k_R_margin.2.1 65 = .ok (.iconst 0, 1)) ic_0) ?_
          obtain ⟨r16, m17, hr16, h⟩ := bn_some h
          have q18 := R_heldMargin_run hL hr16
          have c19 := (RC_0 hL).1
          have hL := q18.2
          refine ai (q_callV (pc := 66) (As := [.int r7, .int 0]) (st := []) (st2 := [.int r16]) (b := 0) rfl rfl (by decide +kernel : decode k_R_margin.2.1 66 = .ok (.invokevirtual 531, 3)) lc_12_531 mo_R_heldMargin ⟨Nat.le_of_ble_eq_true rfl, Nat.le_of_ble_eq_true rfl⟩ (Nat.le_of_ble_eq_true rfl) (Nat.le_of_ble_eq_true rfl) c19 q18.1) ?_
          cases h
          exact ⟨r_iret rfl (by decide +kernel : decode k_R_margin.2.1 69 = .ok (.ireturn, 1)), hL⟩
        · refine ai (r_icmp_eq_f (pc := 53) 62 (by decide +kernel : decode k_R_margin.2.1 53 = .ok (.if_icmp .eq (9), 3)) (by decide) c15) ?_
          exact (ai (r_sub [] rfl) (R_margin_56_run hL h))
set_option maxRecDepth 100000 in
set_option maxHeartbeats 4000000 in
theorem R_rowFact_47_run {k5 : Int32 → Int32 → Int32 → Mem → Option (Int32 × Mem)} {x1 : Int32} {x2 : Int32} {x4 : Int32} {m m' : Mem} {r : Int32} (hk5 : ∀ (x1 : Int32) (x2 : Int32) (x4 : Int32) (m : Mem) (r : Int32) (m' : Mem), RL m → k5 x1 x2 x4 m = some (r, m') → Run k_R_rowFact 5 [(0, .ref 0), (1, .int x1), (2, .int x2), (4, .int x4)] [] m (some (.int r)) m' ∧ RL m') (hL : RL m) (h : R_rowFact_47 k5 x1 x2 x4 m = some (r, m')) : Run k_R_rowFact 47 [(0, .ref 0), (1, .int x1), (2, .int x2), (4, .int x4)] [] m (some (.int r)) m' ∧ RL m' := by
  unfold R_rowFact_47 at h
  obtain ⟨v1, hv1, h⟩ := vb_some h
  refine ai (e_iinc (pc := 47) (k := 3) hv1 ic_m1 (by decide +kernel : decode k_R_rowFact.2.1 47 = .ok (.iinc 4 (-1), 3)) rfl (by decide) rfl) ?_
  refine ai (r_goto (pc := 50) (tgt := 5) (by decide +kernel : decode k_R_rowFact.2.1 50 = .ok (.goto (-45), 3)) (by decide)) ?_
  exact (ai (r_sub [1, 2, 3, 0] rfl) (hk5 x1 x2 v1 m _ _ hL h))
set_option maxRecDepth 100000 in
set_option maxHeartbeats 4000000 in
theorem R_rowFact_5_run {n : Nat} {x1 : Int32} {x2 : Int32} {x4 : Int32} {m m' : Mem} {r : Int32} (hL : RL m) (h : R_rowFact_5 n x1 x2 x4 m = some (r, m')) : Run k_R_rowFact 5 [(0, .ref 0), (1, .int x1), (2, .int x2), (4, .int x4)] [] m (some (.int r)) m' ∧ RL m' := by
  induction n generalizing x1 x2 x4 m r m' with
  | zero => exact absurd h (by simp [R_rowFact_5])
  | succ n ih =>
    rw [R_rowFact_5.eq_2] at h
    refine ai (r_iload (pc := 5) (k := 3) (by decide +kernel : decode k_R_rowFact.2.1 5 = .ok (.iload 4, 2)) rfl) ?_
    rcases ite_some h with ⟨c1, h⟩ | ⟨c1, h⟩
    · refine ai (r_if_lt_t (pc := 7) (tgt := 53) (by decide +kernel : decode k_R_rowFact.2.1 7 = .ok (.ifCond .lt (46), 3)) (by decide) c1) ?_
      refine ai (r_iconst (pc := 53) (by decide +kernel : decode k_R_rowFact.2.1 53 = .ok (.iconst (-1), 1)) ic_m1) ?_
      cases h
      exact ⟨r_iret rfl (by decide +kernel : decode k_R_rowFact.2.1 54 = .ok (.ireturn, 1)), hL⟩
    · refine ai (r_if_lt_f (pc := 7) 53 (by decide +kernel : decode k_R_rowFact.2.1 7 = .ok (.ifCond .lt (46), 3)) (by decide) c1) ?_
      refine ai (p_aload_n (pc := 10) (k := 0) (by decide +kernel : decode k_R_rowFact.2.1 10 = .ok (.aload_n 0, 1)) rfl rfl) ?_
      refine ai (p_getr (pc := 11) (RR_1602_0 hL) (by decide +kernel : decode k_R_rowFact.2.1 11 = .ok (.getfield 149, 3)) lg_12_149 (RC_0 hL).1) ?_
      refine ai (r_iload (pc := 14) (k := 3) (by decide +kernel : decode k_R_rowFact.2.1 14 = .ok (.iload 4, 2)) rfl) ?_
      obtain ⟨g2, h⟩ := gd_some h
      refine ai (p_iald (pc := 16) (by decide +kernel : decode k_R_rowFact.2.1 16 = .ok (.iaload, 1)) (RC_44 hL).1 (RC_44 hL).2 g2) ?_
      refine ai (r_bipush (pc := 17) (by decide +kernel : decode k_R_rowFact.2.1 17 = .ok (.bipush (6), 2)) (by decide : _ = (6 : Int32))) ?_
      rcases ite_some h with ⟨c3, h⟩ | ⟨c3, h⟩
      · refine ai (r_icmp_ne_f (pc := 19) 47 (by decide +kernel : decode k_R_rowFact.2.1 19 = .ok (.if_icmp .ne (28), 3)) (by decide) c3) ?_
        refine ai (p_aload_n (pc := 22) (k := 0) (by decide +kernel : decode k_R_rowFact.2.1 22 = .ok (.aload_n 0, 1)) rfl rfl) ?_
        refine ai (p_getr (pc := 23) (RR_1603_0 hL) (by decide +kernel : decode k_R_rowFact.2.1 23 = .ok (.getfield 152, 3)) lg_12_152 (RC_0 hL).1) ?_
        refine ai (r_iload (pc := 26) (k := 3) (by decide +kernel : decode k_R_rowFact.2.1 26 = .ok (.iload 4, 2)) rfl) ?_
        obtain ⟨g4, h⟩ := gd_some h
        refine ai (p_iald (pc := 28) (by decide +kernel : decode k_R_rowFact.2.1 28 = .ok (.iaload, 1)) (RC_45 hL).1 (RC_45 hL).2 g4) ?_
        refine ai (r_iload_n (pc := 29) (k := 1) (by decide +kernel : decode k_R_rowFact.2.1 29 = .ok (.iload_n 1, 1)) rfl rfl) ?_
        rcases ite_some h with ⟨c5, h⟩ | ⟨c5, h⟩
        · refine ai (r_icmp_ne_f (pc := 30) 47 (by decide +kernel : decode k_R_rowFact.2.1 30 = .ok (.if_icmp .ne (17), 3)) (by decide) c5) ?_
          refine ai (p_aload_n (pc := 33) (k := 0) (by decide +kernel : decode k_R_rowFact.2.1 33 = .ok (.aload_n 0, 1)) rfl rfl) ?_
          refine ai (p_getr (pc := 34) (RR_1604_0 hL) (by decide +kernel : decode k_R_rowFact.2.1 34 = .ok (.getfield 155, 3)) lg_12_155 (RC_0 hL).1) ?_
          refine ai (r_iload (pc := 37) (k := 3) (by decide +kernel : decode k_R_rowFact.2.1 37 = .ok (.iload 4, 2)) rfl) ?_
          obtain ⟨g6, h⟩ := gd_some h
          refine ai (p_iald (pc := 39) (by decide +kernel : decode k_R_rowFact.2.1 39 = .ok (.iaload, 1)) (RC_46 hL).1 (RC_46 hL).2 g6) ?_
          refine ai (r_iload_n (pc := 40) (k := 2) (by decide +kernel : decode k_R_rowFact.2.1 40 = .ok (.iload_n 2, 1)) rfl rfl) ?_
          rcases ite_some h with ⟨c7, h⟩ | ⟨c7, h⟩
          · refine ai (r_icmp_ne_f (pc := 41) 47 (by decide +kernel : decode k_R_rowFact.2.1 41 = .ok (.if_icmp .ne (6), 3)) (by decide) c7) ?_
            refine ai (r_iload (pc := 44) (k := 3) (by decide +kernel : decode k_R_rowFact.2.1 44 = .ok (.iload 4, 2)) rfl) ?_
            cases h
            exact ⟨r_iret rfl (by decide +kernel : decode k_R_rowFact.2.1 46 = .ok (.ireturn, 1)), hL⟩
          · refine ai (r_icmp_ne_t (pc := 41) (tgt := 47) (by decide +kernel : decode k_R_rowFact.2.1 41 = .ok (.if_icmp .ne (6), 3)) (by decide) c7) ?_
            exact (R_rowFact_47_run (fun _ _ _ _ _ _ q1 q3 => ih q1 q3) hL h)
        · refine ai (r_icmp_ne_t (pc := 30) (tgt := 47) (by decide +kernel : decode k_R_rowFact.2.1 30 = .ok (.if_icmp .ne (17), 3)) (by decide) c5) ?_
          exact (R_rowFact_47_run (fun _ _ _ _ _ _ q1 q3 => ih q1 q3) hL h)
      · refine ai (r_icmp_ne_t (pc := 19) (tgt := 47) (by decide +kernel : decode k_R_rowFact.2.1 19 = .ok (.if_icmp .ne (28), 3)) (by decide) c3) ?_
        exact (R_rowFact_47_run (fun _ _ _ _ _ _ q1 q3 => ih q1 q3) hL h)
set_option maxRecDepth 100000 in
set_option maxHeartbeats 4000000 in
theorem R_rowFact_run {x1 : Int32} {x2 : Int32} {x3 : Int32} {m m' : Mem} {r : Int32} (hL : RL m) (h : R_rowFact x1 x2 x3 m = some (r, m')) : Run k_R_rowFact 0 [(0, .ref 0), (1, .int x1), (2, .int x2), (3, .int x3)] [] m (some (.int r)) m' ∧ RL m' := by
  unfold R_rowFact at h
  refine ai (r_iload_n (pc := 0) (k := 3) (by decide +kernel : decode k_R_rowFact.2.1 0 = .ok (.iload_n 3, 1)) rfl rfl) ?_
  refine ai (r_iconst (pc := 1) (by decide +kernel : decode k_R_rowFact.2.1 1 = .ok (.iconst 1, 1)) ic_1) ?_
  refine ai (r_isub (pc := 2) (by decide +kernel : decode k_R_rowFact.2.1 2 = .ok (.isub, 1))) ?_
  obtain ⟨v1, hv1, h⟩ := vb_some h
  refine ai (e_istore (pc := 3) hv1 (by decide +kernel : decode k_R_rowFact.2.1 3 = .ok (.istore 4, 2)) (by decide) rfl) ?_
  exact (ai (r_sub [1, 2, 3, 0] rfl) (R_rowFact_5_run hL h))
set_option maxRecDepth 100000 in
set_option maxHeartbeats 4000000 in
theorem R_doneIn_run {x1 : Int32} {x2 : Int32} {m m' : Mem} {r : Int32} (hL : RL m) (h : R_doneIn x1 x2 m = some (r, m')) : Run k_R_doneIn 0 [(0, .ref 0), (1, .int x1), (2, .int x2)] [] m (some (.int r)) m' ∧ RL m' := by
  unfold R_doneIn at h
  refine ai (r_iload_n (pc := 0) (k := 1) (by decide +kernel : decode k_R_doneIn.2.1 0 = .ok (.iload_n 1, 1)) rfl rfl) ?_
  refine ai (r_iconst (pc := 1) (by decide +kernel : decode k_R_doneIn.2.1 1 = .ok (.iconst (-1), 1)) ic_m1) ?_
  rcases ite_some h with ⟨c1, h⟩ | ⟨c1, h⟩
  · refine ai (r_icmp_ne_f (pc := 2) 7 (by decide +kernel : decode k_R_doneIn.2.1 2 = .ok (.if_icmp .ne (5), 3)) (by decide) c1) ?_
    refine ai (r_iconst (pc := 5) (by decide +kernel : decode k_R_doneIn.2.1 5 = .ok (.iconst (-1), 1)) ic_m1) ?_
    cases h
    exact ⟨r_iret rfl (by decide +kernel : decode k_R_doneIn.2.1 6 = .ok (.ireturn, 1)), hL⟩
  · refine ai (r_icmp_ne_t (pc := 2) (tgt := 7) (by decide +kernel : decode k_R_doneIn.2.1 2 = .ok (.if_icmp .ne (5), 3)) (by decide) c1) ?_
    refine ai (r_iload_n (pc := 7) (k := 2) (by decide +kernel : decode k_R_doneIn.2.1 7 = .ok (.iload_n 2, 1)) rfl rfl) ?_
    refine ai (p_aload_n (pc := 8) (k := 0) (by decide +kernel : decode k_R_doneIn.2.1 8 = .ok (.aload_n 0, 1)) rfl rfl) ?_
    refine ai (p_getr (pc := 9) (RR_1606_0 hL) (by decide +kernel : decode k_R_doneIn.2.1 9 = .ok (.getfield 161, 3)) lg_12_161 (RC_0 hL).1) ?_
    refine ai (r_iload_n (pc := 12) (k := 1) (by decide +kernel : decode k_R_doneIn.2.1 12 = .ok (.iload_n 1, 1)) rfl rfl) ?_
    obtain ⟨g2, h⟩ := gd_some h
    refine ai (p_iald (pc := 13) (by decide +kernel : decode k_R_doneIn.2.1 13 = .ok (.iaload, 1)) (RC_48 hL).1 (RC_48 hL).2 g2) ?_
    rcases ite_some h with ⟨c3, h⟩ | ⟨c3, h⟩
    · refine ai (r_icmp_lt_t (pc := 14) (tgt := 22) (by decide +kernel : decode k_R_doneIn.2.1 14 = .ok (.if_icmp .lt (8), 3)) (by decide) c3) ?_
      refine ai (p_aload_n (pc := 22) (k := 0) (by decide +kernel : decode k_R_doneIn.2.1 22 = .ok (.aload_n 0, 1)) rfl rfl) ?_
      refine ai (p_getr (pc := 23) (RR_1607_0 hL) (by decide +kernel : decode k_R_doneIn.2.1 23 = .ok (.getfield 164, 3)) lg_12_164 (RC_0 hL).1) ?_
      refine ai (r_bipush (pc := 26) (by decide +kernel : decode k_R_doneIn.2.1 26 = .ok (.bipush (48), 2)) (by decide : _ = (48 : Int32))) ?_
      refine ai (r_iload_n (pc := 28) (k := 1) (by decide +kernel : decode k_R_doneIn.2.1 28 = .ok (.iload_n 1, 1)) rfl rfl) ?_
      refine ai (r_imul (pc := 29) (by decide +kernel : decode k_R_doneIn.2.1 29 = .ok (.imul, 1))) ?_
      refine ai (r_iload_n (pc := 30) (k := 2) (by decide +kernel : decode k_R_doneIn.2.1 30 = .ok (.iload_n 2, 1)) rfl rfl) ?_
      refine ai (r_iadd (pc := 31) (by decide +kernel : decode k_R_doneIn.2.1 31 = .ok (.iadd, 1))) ?_
      obtain ⟨g4, h⟩ := gd_some h
      refine ai (p_iald (pc := 32) (by decide +kernel : decode k_R_doneIn.2.1 32 = .ok (.iaload, 1)) (RC_49 hL).1 (RC_49 hL).2 g4) ?_
      cases h
      exact ⟨r_iret rfl (by decide +kernel : decode k_R_doneIn.2.1 33 = .ok (.ireturn, 1)), hL⟩
    · refine ai (r_icmp_lt_f (pc := 14) 22 (by decide +kernel : decode k_R_doneIn.2.1 14 = .ok (.if_icmp .lt (8), 3)) (by decide) c3) ?_
      refine ai (r_bipush (pc := 17) (by decide +kernel : decode k_R_doneIn.2.1 17 = .ok (.bipush (-2), 2)) (by decide : _ = (-2 : Int32))) ?_
      refine ai (r_goto (pc := 19) (tgt := 33) (by decide +kernel : decode k_R_doneIn.2.1 19 = .ok (.goto (14), 3)) (by decide)) ?_
      cases h
      exact ⟨r_iret rfl (by decide +kernel : decode k_R_doneIn.2.1 33 = .ok (.ireturn, 1)), hL⟩
set_option maxRecDepth 100000 in
set_option maxHeartbeats 4000000 in
theorem R_did_run {x1 : Int32} {x2 : Int32} {x3 : Int32} {x4 : Int32} {m m' : Mem} {r : Int32} (hL : RL m) (h : R_did x1 x2 x3 x4 m = some (r, m')) : Run k_R_did 0 [(0, .ref 0), (1, .int x1), (2, .int x2), (3, .int x3), (4, .int x4)] [] m (some (.int r)) m' ∧ RL m' := by
  unfold R_did at h
  refine ai (p_aload_n (pc := 0) (k := 0) (by decide +kernel : decode k_R_did.2.1 0 = .ok (.aload_n 0, 1)) rfl rfl) ?_
  refine ai (r_iload_n (pc := 1) (k := 1) (by decide +kernel : decode k_R_did.2.1 1 = .ok (.iload_n 1, 1)) rfl rfl) ?_
  obtain ⟨r1, m2, hr1, h⟩ := bn_some h
  have q3 := R_isPerson_run hL hr1
  have c4 := (RC_0 hL).1
  have hL := q3.2
  refine ai (q_callV (pc := 2) (As := [.int x1]) (st := []) (st2 := [.int r1]) (b := 0) rfl rfl (by decide +kernel : decode k_R_did.2.1 2 = .ok (.invokevirtual 443, 3)) lc_12_443 mo_R_isPerson ⟨Nat.le_of_ble_eq_true rfl, Nat.le_of_ble_eq_true rfl⟩ (Nat.le_of_ble_eq_true rfl) (Nat.le_of_ble_eq_true rfl) c4 q3.1) ?_
  rcases ite_some h with ⟨c5, h⟩ | ⟨c5, h⟩
  · refine ai (r_if_eq_t (pc := 5) (tgt := 38) (by decide +kernel : decode k_R_did.2.1 5 = .ok (.ifCond .eq (33), 3)) (by decide) c5) ?_
    refine ai (r_bipush (pc := 38) (by decide +kernel : decode k_R_did.2.1 38 = .ok (.bipush (-3), 2)) (by decide : _ = (-3 : Int32))) ?_
    cases h
    exact ⟨r_iret rfl (by decide +kernel : decode k_R_did.2.1 40 = .ok (.ireturn, 1)), hL⟩
  · refine ai (r_if_eq_f (pc := 5) 38 (by decide +kernel : decode k_R_did.2.1 5 = .ok (.ifCond .eq (33), 3)) (by decide) c5) ?_
    refine ai (r_iload_n (pc := 8) (k := 2) (by decide +kernel : decode k_R_did.2.1 8 = .ok (.iload_n 2, 1)) rfl rfl) ?_
    refine ai (r_iconst (pc := 9) (by decide +kernel : decode k_R_did.2.1 9 = .ok (.iconst 0, 1)) ic_0) ?_
    refine ai (r_sipush (pc := 10) (by decide +kernel : decode k_R_did.2.1 10 = .ok (.sipush (139), 3)) (by decide : _ = (139 : Int32))) ?_
    obtain ⟨r6, hr6, h⟩ := bp_some h
    refine ai (q_callS (pc := 13) (As := [.int x2, .int 0, .int 139]) (st := []) (st2 := [.int r6]) rfl rfl (by decide +kernel : decode k_R_did.2.1 13 = .ok (.invokestatic 433, 3)) lc_12_433 mo_R_in ⟨Nat.le_of_ble_eq_true rfl, Nat.le_of_ble_eq_true rfl⟩ (Nat.le_of_ble_eq_true rfl) (Nat.le_of_ble_eq_true rfl) (R_in_run hr6)) ?_
    rcases ite_some h with ⟨c7, h⟩ | ⟨c7, h⟩
    · refine ai (r_if_eq_t (pc := 16) (tgt := 38) (by decide +kernel : decode k_R_did.2.1 16 = .ok (.ifCond .eq (22), 3)) (by decide) c7) ?_
      refine ai (r_bipush (pc := 38) (by decide +kernel : decode k_R_did.2.1 38 = .ok (.bipush (-3), 2)) (by decide : _ = (-3 : Int32))) ?_
      cases h
      exact ⟨r_iret rfl (by decide +kernel : decode k_R_did.2.1 40 = .ok (.ireturn, 1)), hL⟩
    · refine ai (r_if_eq_f (pc := 16) 38 (by decide +kernel : decode k_R_did.2.1 16 = .ok (.ifCond .eq (22), 3)) (by decide) c7) ?_
      refine ai (r_iload_n (pc := 19) (k := 3) (by decide +kernel : decode k_R_did.2.1 19 = .ok (.iload_n 3, 1)) rfl rfl) ?_
      refine ai (r_iconst (pc := 20) (by decide +kernel : decode k_R_did.2.1 20 = .ok (.iconst 0, 1)) ic_0) ?_
      refine ai (r_bipush (pc := 21) (by decide +kernel : decode k_R_did.2.1 21 = .ok (.bipush (47), 2)) (by decide : _ = (47 : Int32))) ?_
      obtain ⟨r8, hr8, h⟩ := bp_some h
      refine ai (q_callS (pc := 23) (As := [.int x3, .int 0, .int 47]) (st := []) (st2 := [.int r8]) rfl rfl (by decide +kernel : decode k_R_did.2.1 23 = .ok (.invokestatic 433, 3)) lc_12_433 mo_R_in ⟨Nat.le_of_ble_eq_true rfl, Nat.le_of_ble_eq_true rfl⟩ (Nat.le_of_ble_eq_true rfl) (Nat.le_of_ble_eq_true rfl) (R_in_run hr8)) ?_
      rcases ite_some h with ⟨c9, h⟩ | ⟨c9, h⟩
      · refine ai (r_if_eq_t (pc := 26) (tgt := 38) (by decide +kernel : decode k_R_did.2.1 26 = .ok (.ifCond .eq (12), 3)) (by decide) c9) ?_
        refine ai (r_bipush (pc := 38) (by decide +kernel : decode k_R_did.2.1 38 = .ok (.bipush (-3), 2)) (by decide : _ = (-3 : Int32))) ?_
        cases h
        exact ⟨r_iret rfl (by decide +kernel : decode k_R_did.2.1 40 = .ok (.ireturn, 1)), hL⟩
      · refine ai (r_if_eq_f (pc := 26) 38 (by decide +kernel : decode k_R_did.2.1 26 = .ok (.ifCond .eq (12), 3)) (by decide) c9) ?_
        refine ai (p_aload_n (pc := 29) (k := 0) (by decide +kernel : decode k_R_did.2.1 29 = .ok (.aload_n 0, 1)) rfl rfl) ?_
        refine ai (r_iload (pc := 30) (k := 4) (by decide +kernel : decode k_R_did.2.1 30 = .ok (.iload 4, 2)) rfl) ?_
        obtain ⟨r10, m11, hr10, h⟩ := bn_some h
        have q12 := R_isKnown_run hL hr10
        have c13 := (RC_0 hL).1
        have hL := q12.2
        refine ai (q_callV (pc := 32) (As := [.int x4]) (st := []) (st2 := [.int r10]) (b := 0) rfl rfl (by decide +kernel : decode k_R_did.2.1 32 = .ok (.invokevirtual 455, 3)) lc_12_455 mo_R_isKnown ⟨Nat.le_of_ble_eq_true rfl, Nat.le_of_ble_eq_true rfl⟩ (Nat.le_of_ble_eq_true rfl) (Nat.le_of_ble_eq_true rfl) c13 q12.1) ?_
        rcases ite_some h with ⟨c14, h⟩ | ⟨c14, h⟩
        · refine ai (r_if_ne_f (pc := 35) 41 (by decide +kernel : decode k_R_did.2.1 35 = .ok (.ifCond .ne (6), 3)) (by decide) c14) ?_
          refine ai (r_bipush (pc := 38) (by decide +kernel : decode k_R_did.2.1 38 = .ok (.bipush (-3), 2)) (by decide : _ = (-3 : Int32))) ?_
          cases h
          exact ⟨r_iret rfl (by decide +kernel : decode k_R_did.2.1 40 = .ok (.ireturn, 1)), hL⟩
        · refine ai (r_if_ne_t (pc := 35) (tgt := 41) (by decide +kernel : decode k_R_did.2.1 35 = .ok (.ifCond .ne (6), 3)) (by decide) c14) ?_
          refine ai (p_aload_n (pc := 41) (k := 0) (by decide +kernel : decode k_R_did.2.1 41 = .ok (.aload_n 0, 1)) rfl rfl) ?_
          refine ai (p_aload_n (pc := 42) (k := 0) (by decide +kernel : decode k_R_did.2.1 42 = .ok (.aload_n 0, 1)) rfl rfl) ?_
          refine ai (r_iload_n (pc := 43) (k := 1) (by decide +kernel : decode k_R_did.2.1 43 = .ok (.iload_n 1, 1)) rfl rfl) ?_
          refine ai (r_iload_n (pc := 44) (k := 2) (by decide +kernel : decode k_R_did.2.1 44 = .ok (.iload_n 2, 1)) rfl rfl) ?_
          refine ai (r_iload (pc := 45) (k := 4) (by decide +kernel : decode k_R_did.2.1 45 = .ok (.iload 4, 2)) rfl) ?_
          obtain ⟨r15, m16, hr15, h⟩ := bn_some h
          have q17 := R_rowFact_run hL hr15
          have c18 := (RC_0 hL).1
          have hL := q17.2
          refine ai (q_callV (pc := 47) (As := [.int x1, .int x2, .int x4]) (st := [.ref 0]) (st2 := [.int r15, .ref 0]) (b := 0) rfl rfl (by decide +kernel : decode k_R_did.2.1 47 = .ok (.invokevirtual 534, 3)) lc_12_534 mo_R_rowFact ⟨Nat.le_of_ble_eq_true rfl, Nat.le_of_ble_eq_true rfl⟩ (Nat.le_of_ble_eq_true rfl) (Nat.le_of_ble_eq_true rfl) c18 q17.1) ?_
          refine ai (r_iload_n (pc := 50) (k := 3) (by decide +kernel : decode k_R_did.2.1 50 = .ok (.iload_n 3, 1)) rfl rfl) ?_
          obtain ⟨r19, m20, hr19, h⟩ := bn_some h
          have q21 := R_doneIn_run hL hr19
          have c22 := (RC_0 hL).1
          have hL := q21.2
          refine ai (q_callV (pc := 51) (As := [.int r15, .int x3]) (st := []) (st2 := [.int r19]) (b := 0) rfl rfl (by decide +kernel : decode k_R_did.2.1 51 = .ok (.invokevirtual 537, 3)) lc_12_537 mo_R_doneIn ⟨Nat.le_of_ble_eq_true rfl, Nat.le_of_ble_eq_true rfl⟩ (Nat.le_of_ble_eq_true rfl) (Nat.le_of_ble_eq_true rfl) c22 q21.1) ?_
          cases h
          exact ⟨r_iret rfl (by decide +kernel : decode k_R_did.2.1 54 = .ok (.ireturn, 1)), hL⟩
set_option maxRecDepth 100000 in
set_option maxHeartbeats 4000000 in
theorem R_isHalf_run {x1 : Int32} {x2 : Int32} {x3 : Int32} {x4 : Int32} {m m' : Mem} {r : Int32} (hL : RL m) (h : R_isHalf x1 x2 x3 x4 m = some (r, m')) : Run k_R_isHalf 0 [(0, .ref 0), (1, .int x1), (2, .int x2), (3, .int x3), (4, .int x4)] [] m (some (.int r)) m' ∧ RL m' := by
  unfold R_isHalf at h
  refine ai (p_aload_n (pc := 0) (k := 0) (by decide +kernel : decode k_R_isHalf.2.1 0 = .ok (.aload_n 0, 1)) rfl rfl) ?_
  refine ai (r_iload_n (pc := 1) (k := 1) (by decide +kernel : decode k_R_isHalf.2.1 1 = .ok (.iload_n 1, 1)) rfl rfl) ?_
  obtain ⟨r1, m2, hr1, h⟩ := bn_some h
  have q3 := R_isPerson_run hL hr1
  have c4 := (RC_0 hL).1
  have hL := q3.2
  refine ai (q_callV (pc := 2) (As := [.int x1]) (st := []) (st2 := [.int r1]) (b := 0) rfl rfl (by decide +kernel : decode k_R_isHalf.2.1 2 = .ok (.invokevirtual 443, 3)) lc_12_443 mo_R_isPerson ⟨Nat.le_of_ble_eq_true rfl, Nat.le_of_ble_eq_true rfl⟩ (Nat.le_of_ble_eq_true rfl) (Nat.le_of_ble_eq_true rfl) c4 q3.1) ?_
  rcases ite_some h with ⟨c5, h⟩ | ⟨c5, h⟩
  · refine ai (r_if_eq_t (pc := 5) (tgt := 42) (by decide +kernel : decode k_R_isHalf.2.1 5 = .ok (.ifCond .eq (37), 3)) (by decide) c5) ?_
    refine ai (r_iconst (pc := 42) (by decide +kernel : decode k_R_isHalf.2.1 42 = .ok (.iconst 0, 1)) ic_0) ?_
    cases h
    exact ⟨r_zret (by decide) rfl (by decide +kernel : decode k_R_isHalf.2.1 43 = .ok (.ireturn, 1)), hL⟩
  · refine ai (r_if_eq_f (pc := 5) 42 (by decide +kernel : decode k_R_isHalf.2.1 5 = .ok (.ifCond .eq (37), 3)) (by decide) c5) ?_
    refine ai (r_iload_n (pc := 8) (k := 2) (by decide +kernel : decode k_R_isHalf.2.1 8 = .ok (.iload_n 2, 1)) rfl rfl) ?_
    refine ai (r_iconst (pc := 9) (by decide +kernel : decode k_R_isHalf.2.1 9 = .ok (.iconst 0, 1)) ic_0) ?_
    refine ai (r_sipush (pc := 10) (by decide +kernel : decode k_R_isHalf.2.1 10 = .ok (.sipush (139), 3)) (by decide : _ = (139 : Int32))) ?_
    obtain ⟨r6, hr6, h⟩ := bp_some h
    refine ai (q_callS (pc := 13) (As := [.int x2, .int 0, .int 139]) (st := []) (st2 := [.int r6]) rfl rfl (by decide +kernel : decode k_R_isHalf.2.1 13 = .ok (.invokestatic 433, 3)) lc_12_433 mo_R_in ⟨Nat.le_of_ble_eq_true rfl, Nat.le_of_ble_eq_true rfl⟩ (Nat.le_of_ble_eq_true rfl) (Nat.le_of_ble_eq_true rfl) (R_in_run hr6)) ?_
    rcases ite_some h with ⟨c7, h⟩ | ⟨c7, h⟩
    · refine ai (r_if_eq_t (pc := 16) (tgt := 42) (by decide +kernel : decode k_R_isHalf.2.1 16 = .ok (.ifCond .eq (26), 3)) (by decide) c7) ?_
      refine ai (r_iconst (pc := 42) (by decide +kernel : decode k_R_isHalf.2.1 42 = .ok (.iconst 0, 1)) ic_0) ?_
      cases h
      exact ⟨r_zret (by decide) rfl (by decide +kernel : decode k_R_isHalf.2.1 43 = .ok (.ireturn, 1)), hL⟩
    · refine ai (r_if_eq_f (pc := 16) 42 (by decide +kernel : decode k_R_isHalf.2.1 16 = .ok (.ifCond .eq (26), 3)) (by decide) c7) ?_
      refine ai (r_iload_n (pc := 19) (k := 3) (by decide +kernel : decode k_R_isHalf.2.1 19 = .ok (.iload_n 3, 1)) rfl rfl) ?_
      refine ai (r_iconst (pc := 20) (by decide +kernel : decode k_R_isHalf.2.1 20 = .ok (.iconst 0, 1)) ic_0) ?_
      refine ai (r_bipush (pc := 21) (by decide +kernel : decode k_R_isHalf.2.1 21 = .ok (.bipush (47), 2)) (by decide : _ = (47 : Int32))) ?_
      obtain ⟨r8, hr8, h⟩ := bp_some h
      refine ai (q_callS (pc := 23) (As := [.int x3, .int 0, .int 47]) (st := []) (st2 := [.int r8]) rfl rfl (by decide +kernel : decode k_R_isHalf.2.1 23 = .ok (.invokestatic 433, 3)) lc_12_433 mo_R_in ⟨Nat.le_of_ble_eq_true rfl, Nat.le_of_ble_eq_true rfl⟩ (Nat.le_of_ble_eq_true rfl) (Nat.le_of_ble_eq_true rfl) (R_in_run hr8)) ?_
      rcases ite_some h with ⟨c9, h⟩ | ⟨c9, h⟩
      · refine ai (r_if_eq_t (pc := 26) (tgt := 42) (by decide +kernel : decode k_R_isHalf.2.1 26 = .ok (.ifCond .eq (16), 3)) (by decide) c9) ?_
        refine ai (r_iconst (pc := 42) (by decide +kernel : decode k_R_isHalf.2.1 42 = .ok (.iconst 0, 1)) ic_0) ?_
        cases h
        exact ⟨r_zret (by decide) rfl (by decide +kernel : decode k_R_isHalf.2.1 43 = .ok (.ireturn, 1)), hL⟩
      · refine ai (r_if_eq_f (pc := 26) 42 (by decide +kernel : decode k_R_isHalf.2.1 26 = .ok (.ifCond .eq (16), 3)) (by decide) c9) ?_
        refine ai (p_aload_n (pc := 29) (k := 0) (by decide +kernel : decode k_R_isHalf.2.1 29 = .ok (.aload_n 0, 1)) rfl rfl) ?_
        refine ai (r_iload (pc := 30) (k := 4) (by decide +kernel : decode k_R_isHalf.2.1 30 = .ok (.iload 4, 2)) rfl) ?_
        obtain ⟨r10, m11, hr10, h⟩ := bn_some h
        have q12 := R_isKnown_run hL hr10
        have c13 := (RC_0 hL).1
        have hL := q12.2
        refine ai (q_callV (pc := 32) (As := [.int x4]) (st := []) (st2 := [.int r10]) (b := 0) rfl rfl (by decide +kernel : decode k_R_isHalf.2.1 32 = .ok (.invokevirtual 455, 3)) lc_12_455 mo_R_isKnown ⟨Nat.le_of_ble_eq_true rfl, Nat.le_of_ble_eq_true rfl⟩ (Nat.le_of_ble_eq_true rfl) (Nat.le_of_ble_eq_true rfl) c13 q12.1) ?_
        rcases ite_some h with ⟨c14, h⟩ | ⟨c14, h⟩
        · refine ai (r_if_eq_t (pc := 35) (tgt := 42) (by decide +kernel : decode k_R_isHalf.2.1 35 = .ok (.ifCond .eq (7), 3)) (by decide) c14) ?_
          refine ai (r_iconst (pc := 42) (by decide +kernel : decode k_R_isHalf.2.1 42 = .ok (.iconst 0, 1)) ic_0) ?_
          cases h
          exact ⟨r_zret (by decide) rfl (by decide +kernel : decode k_R_isHalf.2.1 43 = .ok (.ireturn, 1)), hL⟩
        · refine ai (r_if_eq_f (pc := 35) 42 (by decide +kernel : decode k_R_isHalf.2.1 35 = .ok (.ifCond .eq (7), 3)) (by decide) c14) ?_
          refine ai (r_iconst (pc := 38) (by decide +kernel : decode k_R_isHalf.2.1 38 = .ok (.iconst 1, 1)) ic_1) ?_
          refine ai (r_goto (pc := 39) (tgt := 43) (by decide +kernel : decode k_R_isHalf.2.1 39 = .ok (.goto (4), 3)) (by decide)) ?_
          cases h
          exact ⟨r_zret (by decide) rfl (by decide +kernel : decode k_R_isHalf.2.1 43 = .ok (.ireturn, 1)), hL⟩
set_option maxRecDepth 100000 in
set_option maxHeartbeats 4000000 in
theorem R_wetOf_43_run {x4 : Int32} {m m' : Mem} {r : Int32} (hL : RL m) (h : R_wetOf_43 x4 m = some (r, m')) : Run k_R_wetOf 43 [(0, .ref 0), (4, .int x4)] [] m (some (.int r)) m' ∧ RL m' := by
  unfold R_wetOf_43 at h
  refine ai (p_aload_n (pc := 43) (k := 0) (by decide +kernel : decode k_R_wetOf.2.1 43 = .ok (.aload_n 0, 1)) rfl rfl) ?_
  refine ai (p_getr (pc := 44) (RR_1606_0 hL) (by decide +kernel : decode k_R_wetOf.2.1 44 = .ok (.getfield 161, 3)) lg_12_161 (RC_0 hL).1) ?_
  refine ai (r_iload (pc := 47) (k := 1) (by decide +kernel : decode k_R_wetOf.2.1 47 = .ok (.iload 4, 2)) rfl) ?_
  obtain ⟨g1, h⟩ := gd_some h
  refine ai (p_iald (pc := 49) (by decide +kernel : decode k_R_wetOf.2.1 49 = .ok (.iaload, 1)) (RC_48 hL).1 (RC_48 hL).2 g1) ?_
  cases h
  exact ⟨r_iret rfl (by decide +kernel : decode k_R_wetOf.2.1 50 = .ok (.ireturn, 1)), hL⟩
set_option maxRecDepth 100000 in
set_option maxHeartbeats 4000000 in
theorem R_wetOf_51_run {k5 : Int32 → Int32 → Int32 → Mem → Option (Int32 × Mem)} {x1 : Int32} {x2 : Int32} {x4 : Int32} {m m' : Mem} {r : Int32} (hk5 : ∀ (x1 : Int32) (x2 : Int32) (x4 : Int32) (m : Mem) (r : Int32) (m' : Mem), RL m → k5 x1 x2 x4 m = some (r, m') → Run k_R_wetOf 5 [(0, .ref 0), (1, .int x1), (2, .int x2), (4, .int x4)] [] m (some (.int r)) m' ∧ RL m') (hL : RL m) (h : R_wetOf_51 k5 x1 x2 x4 m = some (r, m')) : Run k_R_wetOf 51 [(0, .ref 0), (1, .int x1), (2, .int x2), (4, .int x4)] [] m (some (.int r)) m' ∧ RL m' := by
  unfold R_wetOf_51 at h
  obtain ⟨v1, hv1, h⟩ := vb_some h
  refine ai (e_iinc (pc := 51) (k := 3) hv1 ic_m1 (by decide +kernel : decode k_R_wetOf.2.1 51 = .ok (.iinc 4 (-1), 3)) rfl (by decide) rfl) ?_
  refine ai (r_goto (pc := 54) (tgt := 5) (by decide +kernel : decode k_R_wetOf.2.1 54 = .ok (.goto (-49), 3)) (by decide)) ?_
  exact (ai (r_sub [1, 2, 3, 0] rfl) (hk5 x1 x2 v1 m _ _ hL h))
set_option maxRecDepth 100000 in
set_option maxHeartbeats 4000000 in
theorem R_wetOf_5_run {n : Nat} {x1 : Int32} {x2 : Int32} {x4 : Int32} {m m' : Mem} {r : Int32} (hL : RL m) (h : R_wetOf_5 n x1 x2 x4 m = some (r, m')) : Run k_R_wetOf 5 [(0, .ref 0), (1, .int x1), (2, .int x2), (4, .int x4)] [] m (some (.int r)) m' ∧ RL m' := by
  induction n generalizing x1 x2 x4 m r m' with
  | zero => exact absurd h (by simp [R_wetOf_5])
  | succ n ih =>
    rw [R_wetOf_5.eq_2] at h
    refine ai (r_iload (pc := 5) (k := 3) (by decide +kernel : decode k_R_wetOf.2.1 5 = .ok (.iload 4, 2)) rfl) ?_
    rcases ite_some h with ⟨c1, h⟩ | ⟨c1, h⟩
    · refine ai (r_if_lt_t (pc := 7) (tgt := 57) (by decide +kernel : decode k_R_wetOf.2.1 7 = .ok (.ifCond .lt (50), 3)) (by decide) c1) ?_
      refine ai (r_iconst (pc := 57) (by decide +kernel : decode k_R_wetOf.2.1 57 = .ok (.iconst 0, 1)) ic_0) ?_
      cases h
      exact ⟨r_iret rfl (by decide +kernel : decode k_R_wetOf.2.1 58 = .ok (.ireturn, 1)), hL⟩
    · refine ai (r_if_lt_f (pc := 7) 57 (by decide +kernel : decode k_R_wetOf.2.1 7 = .ok (.ifCond .lt (50), 3)) (by decide) c1) ?_
      refine ai (p_aload_n (pc := 10) (k := 0) (by decide +kernel : decode k_R_wetOf.2.1 10 = .ok (.aload_n 0, 1)) rfl rfl) ?_
      refine ai (p_getr (pc := 11) (RR_1602_0 hL) (by decide +kernel : decode k_R_wetOf.2.1 11 = .ok (.getfield 149, 3)) lg_12_149 (RC_0 hL).1) ?_
      refine ai (r_iload (pc := 14) (k := 3) (by decide +kernel : decode k_R_wetOf.2.1 14 = .ok (.iload 4, 2)) rfl) ?_
      obtain ⟨g2, h⟩ := gd_some h
      refine ai (p_iald (pc := 16) (by decide +kernel : decode k_R_wetOf.2.1 16 = .ok (.iaload, 1)) (RC_44 hL).1 (RC_44 hL).2 g2) ?_
      refine ai (r_iconst (pc := 17) (by decide +kernel : decode k_R_wetOf.2.1 17 = .ok (.iconst 5, 1)) ic_5) ?_
      rcases ite_some h with ⟨c3, h⟩ | ⟨c3, h⟩
      · refine ai (r_icmp_ne_f (pc := 18) 51 (by decide +kernel : decode k_R_wetOf.2.1 18 = .ok (.if_icmp .ne (33), 3)) (by decide) c3) ?_
        refine ai (p_aload_n (pc := 21) (k := 0) (by decide +kernel : decode k_R_wetOf.2.1 21 = .ok (.aload_n 0, 1)) rfl rfl) ?_
        refine ai (p_getr (pc := 22) (RR_1603_0 hL) (by decide +kernel : decode k_R_wetOf.2.1 22 = .ok (.getfield 152, 3)) lg_12_152 (RC_0 hL).1) ?_
        refine ai (r_iload (pc := 25) (k := 3) (by decide +kernel : decode k_R_wetOf.2.1 25 = .ok (.iload 4, 2)) rfl) ?_
        obtain ⟨g4, h⟩ := gd_some h
        refine ai (p_iald (pc := 27) (by decide +kernel : decode k_R_wetOf.2.1 27 = .ok (.iaload, 1)) (RC_45 hL).1 (RC_45 hL).2 g4) ?_
        refine ai (r_iload_n (pc := 28) (k := 1) (by decide +kernel : decode k_R_wetOf.2.1 28 = .ok (.iload_n 1, 1)) rfl rfl) ?_
        rcases ite_some h with ⟨c5, h⟩ | ⟨c5, h⟩
        · refine ai (r_icmp_ne_f (pc := 29) 51 (by decide +kernel : decode k_R_wetOf.2.1 29 = .ok (.if_icmp .ne (22), 3)) (by decide) c5) ?_
          refine ai (p_aload_n (pc := 32) (k := 0) (by decide +kernel : decode k_R_wetOf.2.1 32 = .ok (.aload_n 0, 1)) rfl rfl) ?_
          refine ai (p_getr (pc := 33) (RR_1604_0 hL) (by decide +kernel : decode k_R_wetOf.2.1 33 = .ok (.getfield 155, 3)) lg_12_155 (RC_0 hL).1) ?_
          refine ai (r_iload (pc := 36) (k := 3) (by decide +kernel : decode k_R_wetOf.2.1 36 = .ok (.iload 4, 2)) rfl) ?_
          obtain ⟨g6, h⟩ := gd_some h
          refine ai (p_iald (pc := 38) (by decide +kernel : decode k_R_wetOf.2.1 38 = .ok (.iaload, 1)) (RC_46 hL).1 (RC_46 hL).2 g6) ?_
          refine ai (r_iload_n (pc := 39) (k := 2) (by decide +kernel : decode k_R_wetOf.2.1 39 = .ok (.iload_n 2, 1)) rfl rfl) ?_
          rcases ite_some h with ⟨c7, h⟩ | ⟨c7, h⟩
          · refine ai (r_icmp_ne_f (pc := 40) 51 (by decide +kernel : decode k_R_wetOf.2.1 40 = .ok (.if_icmp .ne (11), 3)) (by decide) c7) ?_
            exact (ai (r_sub [0, 3] rfl) (R_wetOf_43_run hL h))
          · refine ai (r_icmp_ne_t (pc := 40) (tgt := 51) (by decide +kernel : decode k_R_wetOf.2.1 40 = .ok (.if_icmp .ne (11), 3)) (by decide) c7) ?_
            exact (R_wetOf_51_run (fun _ _ _ _ _ _ q1 q3 => ih q1 q3) hL h)
        · refine ai (r_icmp_ne_t (pc := 29) (tgt := 51) (by decide +kernel : decode k_R_wetOf.2.1 29 = .ok (.if_icmp .ne (22), 3)) (by decide) c5) ?_
          exact (R_wetOf_51_run (fun _ _ _ _ _ _ q1 q3 => ih q1 q3) hL h)
      · refine ai (r_icmp_ne_t (pc := 18) (tgt := 51) (by decide +kernel : decode k_R_wetOf.2.1 18 = .ok (.if_icmp .ne (33), 3)) (by decide) c3) ?_
        exact (R_wetOf_51_run (fun _ _ _ _ _ _ q1 q3 => ih q1 q3) hL h)
set_option maxRecDepth 100000 in
set_option maxHeartbeats 4000000 in
theorem R_wetOf_run {x1 : Int32} {x2 : Int32} {x3 : Int32} {m m' : Mem} {r : Int32} (hL : RL m) (h : R_wetOf x1 x2 x3 m = some (r, m')) : Run k_R_wetOf 0 [(0, .ref 0), (1, .int x1), (2, .int x2), (3, .int x3)] [] m (some (.int r)) m' ∧ RL m' := by
  unfold R_wetOf at h
  refine ai (r_iload_n (pc := 0) (k := 3) (by decide +kernel : decode k_R_wetOf.2.1 0 = .ok (.iload_n 3, 1)) rfl rfl) ?_
  refine ai (r_iconst (pc := 1) (by decide +kernel : decode k_R_wetOf.2.1 1 = .ok (.iconst 1, 1)) ic_1) ?_
  refine ai (r_isub (pc := 2) (by decide +kernel : decode k_R_wetOf.2.1 2 = .ok (.isub, 1))) ?_
  obtain ⟨v1, hv1, h⟩ := vb_some h
  refine ai (e_istore (pc := 3) hv1 (by decide +kernel : decode k_R_wetOf.2.1 3 = .ok (.istore 4, 2)) (by decide) rfl) ?_
  exact (ai (r_sub [1, 2, 3, 0] rfl) (R_wetOf_5_run hL h))
set_option maxRecDepth 100000 in
set_option maxHeartbeats 4000000 in
theorem R_isTask_run {x0 : Int32} {m : Mem} {r : Int32} (h : R_isTask x0 = some r) : Run k_R_isTask 0 [(0, .int x0)] [] m (some (.int r)) m := by
  unfold R_isTask at h
  refine (r_iload_n (pc := 0) (k := 0) (by decide +kernel : decode k_R_isTask.2.1 0 = .ok (.iload_n 0, 1)) rfl rfl) ?_
  rcases ite_some h with ⟨c1, h⟩ | ⟨c1, h⟩
  · refine (r_if_lt_t (pc := 1) (tgt := 14) (by decide +kernel : decode k_R_isTask.2.1 1 = .ok (.ifCond .lt (13), 3)) (by decide) c1) ?_
    refine (r_iconst (pc := 14) (by decide +kernel : decode k_R_isTask.2.1 14 = .ok (.iconst 0, 1)) ic_0) ?_
    cases h
    exact r_zret (by decide) rfl (by decide +kernel : decode k_R_isTask.2.1 15 = .ok (.ireturn, 1))
  · refine (r_if_lt_f (pc := 1) 14 (by decide +kernel : decode k_R_isTask.2.1 1 = .ok (.ifCond .lt (13), 3)) (by decide) c1) ?_
    refine (r_iload_n (pc := 4) (k := 0) (by decide +kernel : decode k_R_isTask.2.1 4 = .ok (.iload_n 0, 1)) rfl rfl) ?_
    refine (r_bipush (pc := 5) (by decide +kernel : decode k_R_isTask.2.1 5 = .ok (.bipush (16), 2)) (by decide : _ = (16 : Int32))) ?_
    rcases ite_some h with ⟨c2, h⟩ | ⟨c2, h⟩
    · refine (r_icmp_ge_t (pc := 7) (tgt := 14) (by decide +kernel : decode k_R_isTask.2.1 7 = .ok (.if_icmp .ge (7), 3)) (by decide) c2) ?_
      refine (r_iconst (pc := 14) (by decide +kernel : decode k_R_isTask.2.1 14 = .ok (.iconst 0, 1)) ic_0) ?_
      cases h
      exact r_zret (by decide) rfl (by decide +kernel : decode k_R_isTask.2.1 15 = .ok (.ireturn, 1))
    · refine (r_icmp_ge_f (pc := 7) 14 (by decide +kernel : decode k_R_isTask.2.1 7 = .ok (.if_icmp .ge (7), 3)) (by decide) c2) ?_
      refine (r_iconst (pc := 10) (by decide +kernel : decode k_R_isTask.2.1 10 = .ok (.iconst 1, 1)) ic_1) ?_
      refine (r_goto (pc := 11) (tgt := 15) (by decide +kernel : decode k_R_isTask.2.1 11 = .ok (.goto (4), 3)) (by decide)) ?_
      cases h
      exact r_zret (by decide) rfl (by decide +kernel : decode k_R_isTask.2.1 15 = .ok (.ireturn, 1))
set_option maxRecDepth 100000 in
set_option maxHeartbeats 4000000 in
theorem R_tasksOf_39_run {k15 : Int32 → Int32 → Int32 → Mem → Option (Int32 × Mem)} {x4 : Int32} {x5 : Int32} {x6 : Int32} {m m' : Mem} {r : Int32} (hk15 : ∀ (x4 : Int32) (x5 : Int32) (x6 : Int32) (m : Mem) (r : Int32) (m' : Mem), RL m → k15 x4 x5 x6 m = some (r, m') → Run k_R_tasksOf 15 [(0, .ref 0), (4, .int x4), (5, .int x5), (6, .int x6)] [] m (some (.int r)) m' ∧ RL m') (hL : RL m) (h : R_tasksOf_39 k15 x4 x5 x6 m = some (r, m')) : Run k_R_tasksOf 39 [(0, .ref 0), (4, .int x4), (5, .int x5), (6, .int x6)] [] m (some (.int r)) m' ∧ RL m' := by
  unfold R_tasksOf_39 at h
  obtain ⟨v1, hv1, h⟩ := vb_some h
  refine ai (e_iinc (pc := 39) (k := 3) hv1 ic_1 (by decide +kernel : decode k_R_tasksOf.2.1 39 = .ok (.iinc 6 (1), 3)) rfl (by decide) rfl) ?_
  refine ai (r_goto (pc := 42) (tgt := 15) (by decide +kernel : decode k_R_tasksOf.2.1 42 = .ok (.goto (-27), 3)) (by decide)) ?_
  exact (ai (r_sub [1, 2, 3, 0] rfl) (hk15 x4 x5 v1 m _ _ hL h))
set_option maxRecDepth 100000 in
set_option maxHeartbeats 4000000 in
theorem R_tasksOf_15_run {n : Nat} {x4 : Int32} {x5 : Int32} {x6 : Int32} {m m' : Mem} {r : Int32} (hL : RL m) (h : R_tasksOf_15 n x4 x5 x6 m = some (r, m')) : Run k_R_tasksOf 15 [(0, .ref 0), (4, .int x4), (5, .int x5), (6, .int x6)] [] m (some (.int r)) m' ∧ RL m' := by
  induction n generalizing x4 x5 x6 m r m' with
  | zero => exact absurd h (by simp [R_tasksOf_15])
  | succ n ih =>
    rw [R_tasksOf_15.eq_2] at h
    refine ai (r_iload (pc := 15) (k := 3) (by decide +kernel : decode k_R_tasksOf.2.1 15 = .ok (.iload 6, 2)) rfl) ?_
    refine ai (r_bipush (pc := 17) (by decide +kernel : decode k_R_tasksOf.2.1 17 = .ok (.bipush (48), 2)) (by decide : _ = (48 : Int32))) ?_
    rcases ite_some h with ⟨c1, h⟩ | ⟨c1, h⟩
    · refine ai (r_icmp_ge_t (pc := 19) (tgt := 45) (by decide +kernel : decode k_R_tasksOf.2.1 19 = .ok (.if_icmp .ge (26), 3)) (by decide) c1) ?_
      refine ai (r_iload (pc := 45) (k := 2) (by decide +kernel : decode k_R_tasksOf.2.1 45 = .ok (.iload 5, 2)) rfl) ?_
      cases h
      exact ⟨r_iret rfl (by decide +kernel : decode k_R_tasksOf.2.1 47 = .ok (.ireturn, 1)), hL⟩
    · refine ai (r_icmp_ge_f (pc := 19) 45 (by decide +kernel : decode k_R_tasksOf.2.1 19 = .ok (.if_icmp .ge (26), 3)) (by decide) c1) ?_
      refine ai (p_aload_n (pc := 22) (k := 0) (by decide +kernel : decode k_R_tasksOf.2.1 22 = .ok (.aload_n 0, 1)) rfl rfl) ?_
      refine ai (r_iload (pc := 23) (k := 1) (by decide +kernel : decode k_R_tasksOf.2.1 23 = .ok (.iload 4, 2)) rfl) ?_
      refine ai (r_iload (pc := 25) (k := 3) (by decide +kernel : decode k_R_tasksOf.2.1 25 = .ok (.iload 6, 2)) rfl) ?_
      obtain ⟨r2, m3, hr2, h⟩ := bn_some h
      have q4 := R_doneIn_run hL hr2
      have c5 := (RC_0 hL).1
      have hL := q4.2
      refine ai (q_callV (pc := 27) (As := [.int x4, .int x6]) (st := []) (st2 := [.int r2]) (b := 0) rfl rfl (by decide +kernel : decode k_R_tasksOf.2.1 27 = .ok (.invokevirtual 537, 3)) lc_12_537 mo_R_doneIn ⟨Nat.le_of_ble_eq_true rfl, Nat.le_of_ble_eq_true rfl⟩ (Nat.le_of_ble_eq_true rfl) (Nat.le_of_ble_eq_true rfl) c5 q4.1) ?_
      obtain ⟨r6, hr6, h⟩ := bp_some h
      refine ai (q_callS (pc := 30) (As := [.int r2]) (st := []) (st2 := [.int r6]) rfl rfl (by decide +kernel : decode k_R_tasksOf.2.1 30 = .ok (.invokestatic 570, 3)) lc_12_570 mo_R_isTask ⟨Nat.le_of_ble_eq_true rfl, Nat.le_of_ble_eq_true rfl⟩ (Nat.le_of_ble_eq_true rfl) (Nat.le_of_ble_eq_true rfl) (R_isTask_run hr6)) ?_
      rcases ite_some h with ⟨c7, h⟩ | ⟨c7, h⟩
      · refine ai (r_if_eq_t (pc := 33) (tgt := 39) (by decide +kernel : decode k_R_tasksOf.2.1 33 = .ok (.ifCond .eq (6), 3)) (by decide) c7) ?_
        exact (R_tasksOf_39_run (fun _ _ _ _ _ _ q1 q3 => ih q1 q3) hL h)
      · refine ai (r_if_eq_f (pc := 33) 39 (by decide +kernel : decode k_R_tasksOf.2.1 33 = .ok (.ifCond .eq (6), 3)) (by decide) c7) ?_
        obtain ⟨v8, hv8, h⟩ := vb_some h
        refine ai (e_iinc (pc := 36) (k := 2) hv8 ic_1 (by decide +kernel : decode k_R_tasksOf.2.1 36 = .ok (.iinc 5 (1), 3)) rfl (by decide) rfl) ?_
        exact (ai (r_sub [1, 2, 0, 3] rfl) (R_tasksOf_39_run (fun _ _ _ _ _ _ q1 q3 => ih q1 q3) hL h))
set_option maxRecDepth 100000 in
set_option maxHeartbeats 4000000 in
theorem R_tasksOf_run {x1 : Int32} {x2 : Int32} {x3 : Int32} {m m' : Mem} {r : Int32} (hL : RL m) (h : R_tasksOf x1 x2 x3 m = some (r, m')) : Run k_R_tasksOf 0 [(0, .ref 0), (1, .int x1), (2, .int x2), (3, .int x3)] [] m (some (.int r)) m' ∧ RL m' := by
  unfold R_tasksOf at h
  refine ai (p_aload_n (pc := 0) (k := 0) (by decide +kernel : decode k_R_tasksOf.2.1 0 = .ok (.aload_n 0, 1)) rfl rfl) ?_
  refine ai (r_iload_n (pc := 1) (k := 1) (by decide +kernel : decode k_R_tasksOf.2.1 1 = .ok (.iload_n 1, 1)) rfl rfl) ?_
  refine ai (r_iload_n (pc := 2) (k := 2) (by decide +kernel : decode k_R_tasksOf.2.1 2 = .ok (.iload_n 2, 1)) rfl rfl) ?_
  refine ai (r_iload_n (pc := 3) (k := 3) (by decide +kernel : decode k_R_tasksOf.2.1 3 = .ok (.iload_n 3, 1)) rfl rfl) ?_
  obtain ⟨r1, m2, hr1, h⟩ := bn_some h
  have q3 := R_rowFact_run hL hr1
  have c4 := (RC_0 hL).1
  have hL := q3.2
  refine ai (q_callV (pc := 4) (As := [.int x1, .int x2, .int x3]) (st := []) (st2 := [.int r1]) (b := 0) rfl rfl (by decide +kernel : decode k_R_tasksOf.2.1 4 = .ok (.invokevirtual 534, 3)) lc_12_534 mo_R_rowFact ⟨Nat.le_of_ble_eq_true rfl, Nat.le_of_ble_eq_true rfl⟩ (Nat.le_of_ble_eq_true rfl) (Nat.le_of_ble_eq_true rfl) c4 q3.1) ?_
  refine ai (e_istore (pc := 7) rfl (by decide +kernel : decode k_R_tasksOf.2.1 7 = .ok (.istore 4, 2)) (by decide) rfl) ?_
  refine ai (r_iconst (pc := 9) (by decide +kernel : decode k_R_tasksOf.2.1 9 = .ok (.iconst 0, 1)) ic_0) ?_
  refine ai (e_istore (pc := 10) rfl (by decide +kernel : decode k_R_tasksOf.2.1 10 = .ok (.istore 5, 2)) (by decide) rfl) ?_
  refine ai (r_iconst (pc := 12) (by decide +kernel : decode k_R_tasksOf.2.1 12 = .ok (.iconst 0, 1)) ic_0) ?_
  refine ai (e_istore (pc := 13) rfl (by decide +kernel : decode k_R_tasksOf.2.1 13 = .ok (.istore 6, 2)) (by decide) rfl) ?_
  exact (ai (r_sub [3, 2, 1, 0] rfl) (R_tasksOf_15_run hL h))
set_option maxRecDepth 100000 in
set_option maxHeartbeats 4000000 in
theorem R_asks_run {x1 : Int32} {x2 : Int32} {m m' : Mem} {r : Unit} (hL : RL m) (h : R_asks x1 x2 m = some (r, m')) : Run k_R_asks 0 [(0, .ref 0), (1, .int x1), (2, .int x2)] [] m none m' ∧ RL m' := by
  unfold R_asks at h
  refine ai (p_aload_n (pc := 0) (k := 0) (by decide +kernel : decode k_R_asks.2.1 0 = .ok (.aload_n 0, 1)) rfl rfl) ?_
  refine ai (p_aload_n (pc := 1) (k := 0) (by decide +kernel : decode k_R_asks.2.1 1 = .ok (.aload_n 0, 1)) rfl rfl) ?_
  refine ai (r_getI (pc := 2) (by decide +kernel : decode k_R_asks.2.1 2 = .ok (.getfield 173, 3)) lg_12_173 (by decide) (RC_0 hL).1) ?_
  refine ai (p_aload_n (pc := 5) (k := 0) (by decide +kernel : decode k_R_asks.2.1 5 = .ok (.aload_n 0, 1)) rfl rfl) ?_
  refine ai (r_getI (pc := 6) (by decide +kernel : decode k_R_asks.2.1 6 = .ok (.getfield 477, 3)) lg_12_477 (by decide) (RC_0 hL).1) ?_
  refine ai (p_aload_n (pc := 9) (k := 0) (by decide +kernel : decode k_R_asks.2.1 9 = .ok (.aload_n 0, 1)) rfl rfl) ?_
  refine ai (r_getI (pc := 10) (by decide +kernel : decode k_R_asks.2.1 10 = .ok (.getfield 480, 3)) lg_12_480 (by decide) (RC_0 hL).1) ?_
  obtain ⟨r1, m2, hr1, h⟩ := bn_some h
  have q3 := R_stands_run hL hr1
  have c4 := (RC_0 hL).1
  have hL := q3.2
  refine ai (q_callV (pc := 13) (As := [.int (mI m 1612 0), .int (mI m 1613 0), .int (mI m 1614 0)]) (st := []) (st2 := []) (b := 0) rfl rfl (by decide +kernel : decode k_R_asks.2.1 13 = .ok (.invokevirtual 491, 3)) lc_12_491 mo_R_stands ⟨Nat.le_of_ble_eq_true rfl, Nat.le_of_ble_eq_true rfl⟩ (Nat.le_of_ble_eq_true rfl) (Nat.le_of_ble_eq_true rfl) c4 q3.1) ?_
  refine ai (p_aload_n (pc := 16) (k := 0) (by decide +kernel : decode k_R_asks.2.1 16 = .ok (.aload_n 0, 1)) rfl rfl) ?_
  refine ai (p_getr (pc := 17) (RR_1608_0 hL) (by decide +kernel : decode k_R_asks.2.1 17 = .ok (.getfield 167, 3)) lg_12_167 (RC_0 hL).1) ?_
  refine ai (r_iconst (pc := 20) (by decide +kernel : decode k_R_asks.2.1 20 = .ok (.iconst 1, 1)) ic_1) ?_
  refine ai (p_aload_n (pc := 21) (k := 0) (by decide +kernel : decode k_R_asks.2.1 21 = .ok (.aload_n 0, 1)) rfl rfl) ?_
  refine ai (p_getr (pc := 22) (RR_1598_0 hL) (by decide +kernel : decode k_R_asks.2.1 22 = .ok (.getfield 140, 3)) lg_12_140 (RC_0 hL).1) ?_
  refine ai (r_iload_n (pc := 25) (k := 1) (by decide +kernel : decode k_R_asks.2.1 25 = .ok (.iload_n 1, 1)) rfl rfl) ?_
  obtain ⟨g5, h⟩ := gd_some h
  refine ai (p_iald (pc := 26) (by decide +kernel : decode k_R_asks.2.1 26 = .ok (.iaload, 1)) (RC_41 hL).1 (RC_41 hL).2 g5) ?_
  obtain ⟨g6, h⟩ := gd_some h
  have c7 := (RC_50 hL).1
  have c8 := (RC_50 hL).2
  obtain ⟨m9, hm9, h⟩ := vb_some h
  have hL : RL m9 := by rw [hm9]; exact hL
  refine ai (p_iast (pc := 27) hm9 (by decide +kernel : decode k_R_asks.2.1 27 = .ok (.iastore, 1)) c7 c8 g6) ?_
  refine ai (p_aload_n (pc := 28) (k := 0) (by decide +kernel : decode k_R_asks.2.1 28 = .ok (.aload_n 0, 1)) rfl rfl) ?_
  refine ai (p_getr (pc := 29) (RR_1608_0 hL) (by decide +kernel : decode k_R_asks.2.1 29 = .ok (.getfield 167, 3)) lg_12_167 (RC_0 hL).1) ?_
  refine ai (r_iconst (pc := 32) (by decide +kernel : decode k_R_asks.2.1 32 = .ok (.iconst 5, 1)) ic_5) ?_
  refine ai (p_aload_n (pc := 33) (k := 0) (by decide +kernel : decode k_R_asks.2.1 33 = .ok (.aload_n 0, 1)) rfl rfl) ?_
  refine ai (p_getr (pc := 34) (RR_1630_0 hL) (by decide +kernel : decode k_R_asks.2.1 34 = .ok (.getfield 206, 3)) lg_12_206 (RC_0 hL).1) ?_
  refine ai (r_iload_n (pc := 37) (k := 2) (by decide +kernel : decode k_R_asks.2.1 37 = .ok (.iload_n 2, 1)) rfl rfl) ?_
  obtain ⟨g10, h⟩ := gd_some h
  refine ai (p_iald (pc := 38) (by decide +kernel : decode k_R_asks.2.1 38 = .ok (.iaload, 1)) (RC_60 hL).1 (RC_60 hL).2 g10) ?_
  obtain ⟨g11, h⟩ := gd_some h
  have c12 := (RC_50 hL).1
  have c13 := (RC_50 hL).2
  obtain ⟨m14, hm14, h⟩ := vb_some h
  have hL : RL m14 := by rw [hm14]; exact hL
  refine ai (p_iast (pc := 39) hm14 (by decide +kernel : decode k_R_asks.2.1 39 = .ok (.iastore, 1)) c12 c13 g11) ?_
  refine ai (p_aload_n (pc := 40) (k := 0) (by decide +kernel : decode k_R_asks.2.1 40 = .ok (.aload_n 0, 1)) rfl rfl) ?_
  refine ai (p_getr (pc := 41) (RR_1608_0 hL) (by decide +kernel : decode k_R_asks.2.1 41 = .ok (.getfield 167, 3)) lg_12_167 (RC_0 hL).1) ?_
  refine ai (r_bipush (pc := 44) (by decide +kernel : decode k_R_asks.2.1 44 = .ok (.bipush (6), 2)) (by decide : _ = (6 : Int32))) ?_
  refine ai (p_aload_n (pc := 46) (k := 0) (by decide +kernel : decode k_R_asks.2.1 46 = .ok (.aload_n 0, 1)) rfl rfl) ?_
  refine ai (r_getI (pc := 47) (by decide +kernel : decode k_R_asks.2.1 47 = .ok (.getfield 173, 3)) lg_12_173 (by decide) (RC_0 hL).1) ?_
  refine ai (r_bipush (pc := 50) (by decide +kernel : decode k_R_asks.2.1 50 = .ok (.bipush (7), 2)) (by decide : _ = (7 : Int32))) ?_
  refine ai (r_irem (pc := 52) (by decide +kernel : decode k_R_asks.2.1 52 = .ok (.irem, 1)) (by decide)) ?_
  obtain ⟨g15, h⟩ := gd_some h
  have c16 := (RC_50 hL).1
  have c17 := (RC_50 hL).2
  obtain ⟨m18, hm18, h⟩ := vb_some h
  have hL : RL m18 := by rw [hm18]; exact hL
  refine ai (p_iast (pc := 53) hm18 (by decide +kernel : decode k_R_asks.2.1 53 = .ok (.iastore, 1)) c16 c17 g15) ?_
  refine ai (p_aload_n (pc := 54) (k := 0) (by decide +kernel : decode k_R_asks.2.1 54 = .ok (.aload_n 0, 1)) rfl rfl) ?_
  refine ai (p_getr (pc := 55) (RR_1608_0 hL) (by decide +kernel : decode k_R_asks.2.1 55 = .ok (.getfield 167, 3)) lg_12_167 (RC_0 hL).1) ?_
  refine ai (r_bipush (pc := 58) (by decide +kernel : decode k_R_asks.2.1 58 = .ok (.bipush (7), 2)) (by decide : _ = (7 : Int32))) ?_
  refine ai (r_iload_n (pc := 60) (k := 2) (by decide +kernel : decode k_R_asks.2.1 60 = .ok (.iload_n 2, 1)) rfl rfl) ?_
  obtain ⟨g19, h⟩ := gd_some h
  have c20 := (RC_50 hL).1
  have c21 := (RC_50 hL).2
  obtain ⟨m22, hm22, h⟩ := vb_some h
  have hL : RL m22 := by rw [hm22]; exact hL
  refine ai (p_iast (pc := 61) hm22 (by decide +kernel : decode k_R_asks.2.1 61 = .ok (.iastore, 1)) c20 c21 g19) ?_
  refine ai (p_aload_n (pc := 62) (k := 0) (by decide +kernel : decode k_R_asks.2.1 62 = .ok (.aload_n 0, 1)) rfl rfl) ?_
  refine ai (p_getr (pc := 63) (RR_1608_0 hL) (by decide +kernel : decode k_R_asks.2.1 63 = .ok (.getfield 167, 3)) lg_12_167 (RC_0 hL).1) ?_
  refine ai (r_bipush (pc := 66) (by decide +kernel : decode k_R_asks.2.1 66 = .ok (.bipush (8), 2)) (by decide : _ = (8 : Int32))) ?_
  refine ai (p_aload_n (pc := 68) (k := 0) (by decide +kernel : decode k_R_asks.2.1 68 = .ok (.aload_n 0, 1)) rfl rfl) ?_
  refine ai (p_getr (pc := 69) (RR_1631_0 hL) (by decide +kernel : decode k_R_asks.2.1 69 = .ok (.getfield 209, 3)) lg_12_209 (RC_0 hL).1) ?_
  refine ai (r_iload_n (pc := 72) (k := 2) (by decide +kernel : decode k_R_asks.2.1 72 = .ok (.iload_n 2, 1)) rfl rfl) ?_
  obtain ⟨g23, h⟩ := gd_some h
  refine ai (p_iald (pc := 73) (by decide +kernel : decode k_R_asks.2.1 73 = .ok (.iaload, 1)) (RC_61 hL).1 (RC_61 hL).2 g23) ?_
  obtain ⟨g24, h⟩ := gd_some h
  have c25 := (RC_50 hL).1
  have c26 := (RC_50 hL).2
  obtain ⟨m27, hm27, h⟩ := vb_some h
  have hL : RL m27 := by rw [hm27]; exact hL
  refine ai (p_iast (pc := 74) hm27 (by decide +kernel : decode k_R_asks.2.1 74 = .ok (.iastore, 1)) c25 c26 g24) ?_
  refine ai (p_aload_n (pc := 75) (k := 0) (by decide +kernel : decode k_R_asks.2.1 75 = .ok (.aload_n 0, 1)) rfl rfl) ?_
  refine ai (p_getr (pc := 76) (RR_1608_0 hL) (by decide +kernel : decode k_R_asks.2.1 76 = .ok (.getfield 167, 3)) lg_12_167 (RC_0 hL).1) ?_
  refine ai (r_bipush (pc := 79) (by decide +kernel : decode k_R_asks.2.1 79 = .ok (.bipush (9), 2)) (by decide : _ = (9 : Int32))) ?_
  refine ai (p_aload_n (pc := 81) (k := 0) (by decide +kernel : decode k_R_asks.2.1 81 = .ok (.aload_n 0, 1)) rfl rfl) ?_
  refine ai (r_getI (pc := 82) (by decide +kernel : decode k_R_asks.2.1 82 = .ok (.getfield 540, 3)) lg_12_540 (by decide) (RC_0 hL).1) ?_
  refine ai (p_aload_n (pc := 85) (k := 0) (by decide +kernel : decode k_R_asks.2.1 85 = .ok (.aload_n 0, 1)) rfl rfl) ?_
  refine ai (p_getr (pc := 86) (RR_1631_0 hL) (by decide +kernel : decode k_R_asks.2.1 86 = .ok (.getfield 209, 3)) lg_12_209 (RC_0 hL).1) ?_
  refine ai (r_iload_n (pc := 89) (k := 2) (by decide +kernel : decode k_R_asks.2.1 89 = .ok (.iload_n 2, 1)) rfl rfl) ?_
  obtain ⟨g28, h⟩ := gd_some h
  refine ai (p_iald (pc := 90) (by decide +kernel : decode k_R_asks.2.1 90 = .ok (.iaload, 1)) (RC_61 hL).1 (RC_61 hL).2 g28) ?_
  refine ai (r_iadd (pc := 91) (by decide +kernel : decode k_R_asks.2.1 91 = .ok (.iadd, 1))) ?_
  obtain ⟨g29, h⟩ := gd_some h
  have c30 := (RC_50 hL).1
  have c31 := (RC_50 hL).2
  obtain ⟨m32, hm32, h⟩ := vb_some h
  have hL : RL m32 := by rw [hm32]; exact hL
  refine ai (p_iast (pc := 92) hm32 (by decide +kernel : decode k_R_asks.2.1 92 = .ok (.iastore, 1)) c30 c31 g29) ?_
  refine ai (p_aload_n (pc := 93) (k := 0) (by decide +kernel : decode k_R_asks.2.1 93 = .ok (.aload_n 0, 1)) rfl rfl) ?_
  refine ai (p_getr (pc := 94) (RR_1608_0 hL) (by decide +kernel : decode k_R_asks.2.1 94 = .ok (.getfield 167, 3)) lg_12_167 (RC_0 hL).1) ?_
  refine ai (r_bipush (pc := 97) (by decide +kernel : decode k_R_asks.2.1 97 = .ok (.bipush (10), 2)) (by decide : _ = (10 : Int32))) ?_
  refine ai (p_aload_n (pc := 99) (k := 0) (by decide +kernel : decode k_R_asks.2.1 99 = .ok (.aload_n 0, 1)) rfl rfl) ?_
  refine ai (r_getI (pc := 100) (by decide +kernel : decode k_R_asks.2.1 100 = .ok (.getfield 543, 3)) lg_12_543 (by decide) (RC_0 hL).1) ?_
  obtain ⟨g33, h⟩ := gd_some h
  have c34 := (RC_50 hL).1
  have c35 := (RC_50 hL).2
  obtain ⟨m36, hm36, h⟩ := vb_some h
  have hL : RL m36 := by rw [hm36]; exact hL
  refine ai (p_iast (pc := 103) hm36 (by decide +kernel : decode k_R_asks.2.1 103 = .ok (.iastore, 1)) c34 c35 g33) ?_
  refine ai (p_aload_n (pc := 104) (k := 0) (by decide +kernel : decode k_R_asks.2.1 104 = .ok (.aload_n 0, 1)) rfl rfl) ?_
  refine ai (p_aload_n (pc := 105) (k := 0) (by decide +kernel : decode k_R_asks.2.1 105 = .ok (.aload_n 0, 1)) rfl rfl) ?_
  refine ai (p_getr (pc := 106) (RR_1597_0 hL) (by decide +kernel : decode k_R_asks.2.1 106 = .ok (.getfield 137, 3)) lg_12_137 (RC_0 hL).1) ?_
  refine ai (r_iload_n (pc := 109) (k := 1) (by decide +kernel : decode k_R_asks.2.1 109 = .ok (.iload_n 1, 1)) rfl rfl) ?_
  obtain ⟨g37, h⟩ := gd_some h
  refine ai (p_iald (pc := 110) (by decide +kernel : decode k_R_asks.2.1 110 = .ok (.iaload, 1)) (RC_40 hL).1 (RC_40 hL).2 g37) ?_
  have c38 := (RC_0 hL).1
  obtain ⟨m39, hm39, h⟩ := vb_some h
  have hL : RL m39 := by rw [hm39]; exact hL
  refine ai (p_putI (pc := 111) hm39 (by decide +kernel : decode k_R_asks.2.1 111 = .ok (.putfield 468, 3)) lp_12_468 c38) ?_
  cases h
  exact ⟨r_vret rfl (by decide +kernel : decode k_R_asks.2.1 114 = .ok (.return_, 1)), hL⟩
set_option maxRecDepth 100000 in
set_option maxHeartbeats 4000000 in
theorem R_isTrue_199_run {x1 : Int32} {x2 : Int32} {m m' : Mem} {r : Int32} (hL : RL m) (h : R_isTrue_199 x1 x2 m = some (r, m')) : Run k_R_isTrue 199 [(0, .ref 0), (1, .int x1), (2, .int x2)] [] m (some (.int r)) m' ∧ RL m' := by
  unfold R_isTrue_199 at h
  refine ai (r_iload_n (pc := 199) (k := 2) (by decide +kernel : decode k_R_isTrue.2.1 199 = .ok (.iload_n 2, 1)) rfl rfl) ?_
  refine ai (p_aload_n (pc := 200) (k := 0) (by decide +kernel : decode k_R_isTrue.2.1 200 = .ok (.aload_n 0, 1)) rfl rfl) ?_
  refine ai (p_getr (pc := 201) (RR_1575_0 hL) (by decide +kernel : decode k_R_isTrue.2.1 201 = .ok (.getfield 101, 3)) lg_12_101 (RC_0 hL).1) ?_
  refine ai (r_iload_n (pc := 204) (k := 1) (by decide +kernel : decode k_R_isTrue.2.1 204 = .ok (.iload_n 1, 1)) rfl rfl) ?_
  obtain ⟨g1, h⟩ := gd_some h
  refine ai (p_zald (pc := 205) (by decide +kernel : decode k_R_isTrue.2.1 205 = .ok (.baload, 1)) (RC_28 hL).1 (RC_28 hL).2 g1) ?_
  rcases ite_some h with ⟨c2, h⟩ | ⟨c2, h⟩
  · refine ai (r_icmp_eq_t (pc := 206) (tgt := 213) (by decide +kernel : decode k_R_isTrue.2.1 206 = .ok (.if_icmp .eq (7), 3)) (by decide) c2) ?_
    refine ai (r_iconst (pc := 213) (by decide +kernel : decode k_R_isTrue.2.1 213 = .ok (.iconst 0, 1)) ic_0) ?_
    cases h
    exact ⟨r_zret (by decide) rfl (by decide +kernel : decode k_R_isTrue.2.1 214 = .ok (.ireturn, 1)), hL⟩
  · refine ai (r_icmp_eq_f (pc := 206) 213 (by decide +kernel : decode k_R_isTrue.2.1 206 = .ok (.if_icmp .eq (7), 3)) (by decide) c2) ?_
    refine ai (r_iconst (pc := 209) (by decide +kernel : decode k_R_isTrue.2.1 209 = .ok (.iconst 1, 1)) ic_1) ?_
    refine ai (r_goto (pc := 210) (tgt := 214) (by decide +kernel : decode k_R_isTrue.2.1 210 = .ok (.goto (4), 3)) (by decide)) ?_
    cases h
    exact ⟨r_zret (by decide) rfl (by decide +kernel : decode k_R_isTrue.2.1 214 = .ok (.ireturn, 1)), hL⟩
set_option maxRecDepth 100000 in
set_option maxHeartbeats 4000000 in
theorem R_isTrue_37_run {x1 : Int32} {s0 : Int32} {m m' : Mem} {r : Int32} (hL : RL m) (h : R_isTrue_37 x1 s0 m = some (r, m')) : Run k_R_isTrue 37 [(0, .ref 0), (1, .int x1)] [.int s0] m (some (.int r)) m' ∧ RL m' := by
  unfold R_isTrue_37 at h
  refine ai (e_istore_n (pc := 37) rfl (by decide +kernel : decode k_R_isTrue.2.1 37 = .ok (.istore_n 2, 1)) rfl (by decide) rfl) ?_
  refine ai (r_goto (pc := 38) (tgt := 199) (by decide +kernel : decode k_R_isTrue.2.1 38 = .ok (.goto (161), 3)) (by decide)) ?_
  exact (ai (r_sub [1, 2, 0] rfl) (R_isTrue_199_run hL h))
set_option maxRecDepth 100000 in
set_option maxHeartbeats 4000000 in
theorem R_isTrue_198_run {x1 : Int32} {s0 : Int32} {m m' : Mem} {r : Int32} (hL : RL m) (h : R_isTrue_198 x1 s0 m = some (r, m')) : Run k_R_isTrue 198 [(0, .ref 0), (1, .int x1)] [.int s0] m (some (.int r)) m' ∧ RL m' := by
  unfold R_isTrue_198 at h
  refine ai (e_istore_n (pc := 198) rfl (by decide +kernel : decode k_R_isTrue.2.1 198 = .ok (.istore_n 2, 1)) rfl (by decide) rfl) ?_
  exact (ai (r_sub [1, 2, 0] rfl) (R_isTrue_199_run hL h))
set_option maxRecDepth 100000 in
set_option maxHeartbeats 4000000 in
theorem R_isTrue_197_run {x1 : Int32} {m m' : Mem} {r : Int32} (hL : RL m) (h : R_isTrue_197 x1 m = some (r, m')) : Run k_R_isTrue 197 [(0, .ref 0), (1, .int x1)] [] m (some (.int r)) m' ∧ RL m' := by
  unfold R_isTrue_197 at h
  refine ai (r_iconst (pc := 197) (by decide +kernel : decode k_R_isTrue.2.1 197 = .ok (.iconst 0, 1)) ic_0) ?_
  exact (R_isTrue_198_run hL h)
set_option maxRecDepth 100000 in
set_option maxHeartbeats 4000000 in
theorem R_isTrue_183_run {x1 : Int32} {x4 : Int32} {s0 : Int32} {m m' : Mem} {r : Int32} (hL : RL m) (h : R_isTrue_183 x1 x4 s0 m = some (r, m')) : Run k_R_isTrue 183 [(0, .ref 0), (1, .int x1), (4, .int x4)] [.int s0] m (some (.int r)) m' ∧ RL m' := by
  unfold R_isTrue_183 at h
  refine ai (e_istore_n (pc := 183) rfl (by decide +kernel : decode k_R_isTrue.2.1 183 = .ok (.istore_n 2, 1)) rfl (by decide) rfl) ?_
  refine ai (r_iload_n (pc := 184) (k := 0) (by decide +kernel : decode k_R_isTrue.2.1 184 = .ok (.iload_n 2, 1)) rfl rfl) ?_
  rcases ite_some h with ⟨c1, h⟩ | ⟨c1, h⟩
  · refine ai (r_if_eq_t (pc := 185) (tgt := 197) (by decide +kernel : decode k_R_isTrue.2.1 185 = .ok (.ifCond .eq (12), 3)) (by decide) c1) ?_
    exact (ai (r_sub [1, 2] rfl) (R_isTrue_197_run hL h))
  · refine ai (r_if_eq_f (pc := 185) 197 (by decide +kernel : decode k_R_isTrue.2.1 185 = .ok (.ifCond .eq (12), 3)) (by decide) c1) ?_
    refine ai (r_iload (pc := 188) (k := 3) (by decide +kernel : decode k_R_isTrue.2.1 188 = .ok (.iload 4, 2)) rfl) ?_
    rcases ite_some h with ⟨c2, h⟩ | ⟨c2, h⟩
    · refine ai (r_if_ne_f (pc := 190) 197 (by decide +kernel : decode k_R_isTrue.2.1 190 = .ok (.ifCond .ne (7), 3)) (by decide) c2) ?_
      refine ai (r_iconst (pc := 193) (by decide +kernel : decode k_R_isTrue.2.1 193 = .ok (.iconst 1, 1)) ic_1) ?_
      refine ai (r_goto (pc := 194) (tgt := 198) (by decide +kernel : decode k_R_isTrue.2.1 194 = .ok (.goto (4), 3)) (by decide)) ?_
      exact (ai (r_sub [1, 2] rfl) (R_isTrue_198_run hL h))
    · refine ai (r_if_ne_t (pc := 190) (tgt := 197) (by decide +kernel : decode k_R_isTrue.2.1 190 = .ok (.ifCond .ne (7), 3)) (by decide) c2) ?_
      exact (ai (r_sub [1, 2] rfl) (R_isTrue_197_run hL h))
set_option maxRecDepth 100000 in
set_option maxHeartbeats 4000000 in
theorem R_isTrue_99_run {x1 : Int32} {x3 : Int32} {x5 : Int32} {s0 : Int32} {m m' : Mem} {r : Int32} (hL : RL m) (h : R_isTrue_99 x1 x3 x5 s0 m = some (r, m')) : Run k_R_isTrue 99 [(0, .ref 0), (1, .int x1), (3, .int x3), (5, .int x5)] [.int s0] m (some (.int r)) m' ∧ RL m' := by
  unfold R_isTrue_99 at h
  refine ai (e_istore (pc := 99) rfl (by decide +kernel : decode k_R_isTrue.2.1 99 = .ok (.istore 4, 2)) (by decide) rfl) ?_
  refine ai (p_aload_n (pc := 101) (k := 1) (by decide +kernel : decode k_R_isTrue.2.1 101 = .ok (.aload_n 0, 1)) rfl rfl) ?_
  refine ai (p_getr (pc := 102) (RR_1574_0 hL) (by decide +kernel : decode k_R_isTrue.2.1 102 = .ok (.getfield 98, 3)) lg_12_98 (RC_0 hL).1) ?_
  refine ai (r_iload_n (pc := 105) (k := 2) (by decide +kernel : decode k_R_isTrue.2.1 105 = .ok (.iload_n 1, 1)) rfl rfl) ?_
  obtain ⟨g1, h⟩ := gd_some h
  refine ai (p_iald (pc := 106) (by decide +kernel : decode k_R_isTrue.2.1 106 = .ok (.iaload, 1)) (RC_27 hL).1 (RC_27 hL).2 g1) ?_
  rcases ite_some h with ⟨c2, h⟩ | ⟨c2, h⟩
  · refine ai (r_if_ne_f (pc := 107) 124 (by decide +kernel : decode k_R_isTrue.2.1 107 = .ok (.ifCond .ne (17), 3)) (by decide) c2) ?_
    refine ai (r_iload_n (pc := 110) (k := 3) (by decide +kernel : decode k_R_isTrue.2.1 110 = .ok (.iload_n 3, 1)) rfl rfl) ?_
    refine ai (r_iload (pc := 111) (k := 4) (by decide +kernel : decode k_R_isTrue.2.1 111 = .ok (.iload 5, 2)) rfl) ?_
    rcases ite_some h with ⟨c3, h⟩ | ⟨c3, h⟩
    · refine ai (r_icmp_ne_f (pc := 113) 120 (by decide +kernel : decode k_R_isTrue.2.1 113 = .ok (.if_icmp .ne (7), 3)) (by decide) c3) ?_
      refine ai (r_iconst (pc := 116) (by decide +kernel : decode k_R_isTrue.2.1 116 = .ok (.iconst 1, 1)) ic_1) ?_
      refine ai (r_goto (pc := 117) (tgt := 183) (by decide +kernel : decode k_R_isTrue.2.1 117 = .ok (.goto (66), 3)) (by decide)) ?_
      exact (ai (r_sub [1, 2, 0] rfl) (R_isTrue_183_run hL h))
    · refine ai (r_icmp_ne_t (pc := 113) (tgt := 120) (by decide +kernel : decode k_R_isTrue.2.1 113 = .ok (.if_icmp .ne (7), 3)) (by decide) c3) ?_
      refine ai (r_iconst (pc := 120) (by decide +kernel : decode k_R_isTrue.2.1 120 = .ok (.iconst 0, 1)) ic_0) ?_
      refine ai (r_goto (pc := 121) (tgt := 183) (by decide +kernel : decode k_R_isTrue.2.1 121 = .ok (.goto (62), 3)) (by decide)) ?_
      exact (ai (r_sub [1, 2, 0] rfl) (R_isTrue_183_run hL h))
  · refine ai (r_if_ne_t (pc := 107) (tgt := 124) (by decide +kernel : decode k_R_isTrue.2.1 107 = .ok (.ifCond .ne (17), 3)) (by decide) c2) ?_
    refine ai (p_aload_n (pc := 124) (k := 1) (by decide +kernel : decode k_R_isTrue.2.1 124 = .ok (.aload_n 0, 1)) rfl rfl) ?_
    refine ai (p_getr (pc := 125) (RR_1574_0 hL) (by decide +kernel : decode k_R_isTrue.2.1 125 = .ok (.getfield 98, 3)) lg_12_98 (RC_0 hL).1) ?_
    refine ai (r_iload_n (pc := 128) (k := 2) (by decide +kernel : decode k_R_isTrue.2.1 128 = .ok (.iload_n 1, 1)) rfl rfl) ?_
    obtain ⟨g4, h⟩ := gd_some h
    refine ai (p_iald (pc := 129) (by decide +kernel : decode k_R_isTrue.2.1 129 = .ok (.iaload, 1)) (RC_27 hL).1 (RC_27 hL).2 g4) ?_
    refine ai (r_iconst (pc := 130) (by decide +kernel : decode k_R_isTrue.2.1 130 = .ok (.iconst 1, 1)) ic_1) ?_
    rcases ite_some h with ⟨c5, h⟩ | ⟨c5, h⟩
    · refine ai (r_icmp_ne_f (pc := 131) 148 (by decide +kernel : decode k_R_isTrue.2.1 131 = .ok (.if_icmp .ne (17), 3)) (by decide) c5) ?_
      refine ai (r_iload_n (pc := 134) (k := 3) (by decide +kernel : decode k_R_isTrue.2.1 134 = .ok (.iload_n 3, 1)) rfl rfl) ?_
      refine ai (r_iload (pc := 135) (k := 4) (by decide +kernel : decode k_R_isTrue.2.1 135 = .ok (.iload 5, 2)) rfl) ?_
      rcases ite_some h with ⟨c6, h⟩ | ⟨c6, h⟩
      · refine ai (r_icmp_eq_t (pc := 137) (tgt := 144) (by decide +kernel : decode k_R_isTrue.2.1 137 = .ok (.if_icmp .eq (7), 3)) (by decide) c6) ?_
        refine ai (r_iconst (pc := 144) (by decide +kernel : decode k_R_isTrue.2.1 144 = .ok (.iconst 0, 1)) ic_0) ?_
        refine ai (r_goto (pc := 145) (tgt := 183) (by decide +kernel : decode k_R_isTrue.2.1 145 = .ok (.goto (38), 3)) (by decide)) ?_
        exact (ai (r_sub [1, 2, 0] rfl) (R_isTrue_183_run hL h))
      · refine ai (r_icmp_eq_f (pc := 137) 144 (by decide +kernel : decode k_R_isTrue.2.1 137 = .ok (.if_icmp .eq (7), 3)) (by decide) c6) ?_
        refine ai (r_iconst (pc := 140) (by decide +kernel : decode k_R_isTrue.2.1 140 = .ok (.iconst 1, 1)) ic_1) ?_
        refine ai (r_goto (pc := 141) (tgt := 183) (by decide +kernel : decode k_R_isTrue.2.1 141 = .ok (.goto (42), 3)) (by decide)) ?_
        exact (ai (r_sub [1, 2, 0] rfl) (R_isTrue_183_run hL h))
    · refine ai (r_icmp_ne_t (pc := 131) (tgt := 148) (by decide +kernel : decode k_R_isTrue.2.1 131 = .ok (.if_icmp .ne (17), 3)) (by decide) c5) ?_
      refine ai (p_aload_n (pc := 148) (k := 1) (by decide +kernel : decode k_R_isTrue.2.1 148 = .ok (.aload_n 0, 1)) rfl rfl) ?_
      refine ai (p_getr (pc := 149) (RR_1574_0 hL) (by decide +kernel : decode k_R_isTrue.2.1 149 = .ok (.getfield 98, 3)) lg_12_98 (RC_0 hL).1) ?_
      refine ai (r_iload_n (pc := 152) (k := 2) (by decide +kernel : decode k_R_isTrue.2.1 152 = .ok (.iload_n 1, 1)) rfl rfl) ?_
      obtain ⟨g7, h⟩ := gd_some h
      refine ai (p_iald (pc := 153) (by decide +kernel : decode k_R_isTrue.2.1 153 = .ok (.iaload, 1)) (RC_27 hL).1 (RC_27 hL).2 g7) ?_
      refine ai (r_iconst (pc := 154) (by decide +kernel : decode k_R_isTrue.2.1 154 = .ok (.iconst 2, 1)) ic_2) ?_
      rcases ite_some h with ⟨c8, h⟩ | ⟨c8, h⟩
      · refine ai (r_icmp_ne_f (pc := 155) 172 (by decide +kernel : decode k_R_isTrue.2.1 155 = .ok (.if_icmp .ne (17), 3)) (by decide) c8) ?_
        refine ai (r_iload_n (pc := 158) (k := 3) (by decide +kernel : decode k_R_isTrue.2.1 158 = .ok (.iload_n 3, 1)) rfl rfl) ?_
        refine ai (r_iload (pc := 159) (k := 4) (by decide +kernel : decode k_R_isTrue.2.1 159 = .ok (.iload 5, 2)) rfl) ?_
        rcases ite_some h with ⟨c9, h⟩ | ⟨c9, h⟩
        · refine ai (r_icmp_ge_t (pc := 161) (tgt := 168) (by decide +kernel : decode k_R_isTrue.2.1 161 = .ok (.if_icmp .ge (7), 3)) (by decide) c9) ?_
          refine ai (r_iconst (pc := 168) (by decide +kernel : decode k_R_isTrue.2.1 168 = .ok (.iconst 0, 1)) ic_0) ?_
          refine ai (r_goto (pc := 169) (tgt := 183) (by decide +kernel : decode k_R_isTrue.2.1 169 = .ok (.goto (14), 3)) (by decide)) ?_
          exact (ai (r_sub [1, 2, 0] rfl) (R_isTrue_183_run hL h))
        · refine ai (r_icmp_ge_f (pc := 161) 168 (by decide +kernel : decode k_R_isTrue.2.1 161 = .ok (.if_icmp .ge (7), 3)) (by decide) c9) ?_
          refine ai (r_iconst (pc := 164) (by decide +kernel : decode k_R_isTrue.2.1 164 = .ok (.iconst 1, 1)) ic_1) ?_
          refine ai (r_goto (pc := 165) (tgt := 183) (by decide +kernel : decode k_R_isTrue.2.1 165 = .ok (.goto (18), 3)) (by decide)) ?_
          exact (ai (r_sub [1, 2, 0] rfl) (R_isTrue_183_run hL h))
      · refine ai (r_icmp_ne_t (pc := 155) (tgt := 172) (by decide +kernel : decode k_R_isTrue.2.1 155 = .ok (.if_icmp .ne (17), 3)) (by decide) c8) ?_
        refine ai (r_iload_n (pc := 172) (k := 3) (by decide +kernel : decode k_R_isTrue.2.1 172 = .ok (.iload_n 3, 1)) rfl rfl) ?_
        refine ai (r_iload (pc := 173) (k := 4) (by decide +kernel : decode k_R_isTrue.2.1 173 = .ok (.iload 5, 2)) rfl) ?_
        rcases ite_some h with ⟨c10, h⟩ | ⟨c10, h⟩
        · refine ai (r_icmp_gt_t (pc := 175) (tgt := 182) (by decide +kernel : decode k_R_isTrue.2.1 175 = .ok (.if_icmp .gt (7), 3)) (by decide) c10) ?_
          refine ai (r_iconst (pc := 182) (by decide +kernel : decode k_R_isTrue.2.1 182 = .ok (.iconst 0, 1)) ic_0) ?_
          exact (ai (r_sub [1, 2, 0] rfl) (R_isTrue_183_run hL h))
        · refine ai (r_icmp_gt_f (pc := 175) 182 (by decide +kernel : decode k_R_isTrue.2.1 175 = .ok (.if_icmp .gt (7), 3)) (by decide) c10) ?_
          refine ai (r_iconst (pc := 178) (by decide +kernel : decode k_R_isTrue.2.1 178 = .ok (.iconst 1, 1)) ic_1) ?_
          refine ai (r_goto (pc := 179) (tgt := 183) (by decide +kernel : decode k_R_isTrue.2.1 179 = .ok (.goto (4), 3)) (by decide)) ?_
          exact (ai (r_sub [1, 2, 0] rfl) (R_isTrue_183_run hL h))
set_option maxRecDepth 100000 in
set_option maxHeartbeats 4000000 in
theorem R_isTrue_94_run {x1 : Int32} {x3 : Int32} {x5 : Int32} {m m' : Mem} {r : Int32} (hL : RL m) (h : R_isTrue_94 x1 x3 x5 m = some (r, m')) : Run k_R_isTrue 94 [(0, .ref 0), (1, .int x1), (3, .int x3), (5, .int x5)] [] m (some (.int r)) m' ∧ RL m' := by
  unfold R_isTrue_94 at h
  refine ai (r_iconst (pc := 94) (by decide +kernel : decode k_R_isTrue.2.1 94 = .ok (.iconst 1, 1)) ic_1) ?_
  refine ai (r_goto (pc := 95) (tgt := 99) (by decide +kernel : decode k_R_isTrue.2.1 95 = .ok (.goto (4), 3)) (by decide)) ?_
  exact (R_isTrue_99_run hL h)
set_option maxRecDepth 100000 in
set_option maxHeartbeats 4000000 in
theorem R_isTrue_run {x1 : Int32} {m m' : Mem} {r : Int32} (hL : RL m) (h : R_isTrue x1 m = some (r, m')) : Run k_R_isTrue 0 [(0, .ref 0), (1, .int x1)] [] m (some (.int r)) m' ∧ RL m' := by
  unfold R_isTrue at h
  refine ai (p_aload_n (pc := 0) (k := 0) (by decide +kernel : decode k_R_isTrue.2.1 0 = .ok (.aload_n 0, 1)) rfl rfl) ?_
  refine ai (p_getr (pc := 1) (RR_1574_0 hL) (by decide +kernel : decode k_R_isTrue.2.1 1 = .ok (.getfield 98, 3)) lg_12_98 (RC_0 hL).1) ?_
  refine ai (r_iload_n (pc := 4) (k := 1) (by decide +kernel : decode k_R_isTrue.2.1 4 = .ok (.iload_n 1, 1)) rfl rfl) ?_
  obtain ⟨g1, h⟩ := gd_some h
  refine ai (p_iald (pc := 5) (by decide +kernel : decode k_R_isTrue.2.1 5 = .ok (.iaload, 1)) (RC_27 hL).1 (RC_27 hL).2 g1) ?_
  refine ai (r_iconst (pc := 6) (by decide +kernel : decode k_R_isTrue.2.1 6 = .ok (.iconst 4, 1)) ic_4) ?_
  rcases ite_some h with ⟨c2, h⟩ | ⟨c2, h⟩
  · refine ai (r_icmp_ne_f (pc := 7) 41 (by decide +kernel : decode k_R_isTrue.2.1 7 = .ok (.if_icmp .ne (34), 3)) (by decide) c2) ?_
    refine ai (p_aload_n (pc := 10) (k := 0) (by decide +kernel : decode k_R_isTrue.2.1 10 = .ok (.aload_n 0, 1)) rfl rfl) ?_
    refine ai (r_getI (pc := 11) (by decide +kernel : decode k_R_isTrue.2.1 11 = .ok (.getfield 468, 3)) lg_12_468 (by decide) (RC_0 hL).1) ?_
    refine ai (p_aload_n (pc := 14) (k := 0) (by decide +kernel : decode k_R_isTrue.2.1 14 = .ok (.aload_n 0, 1)) rfl rfl) ?_
    refine ai (p_getr (pc := 15) (RR_1583_0 hL) (by decide +kernel : decode k_R_isTrue.2.1 15 = .ok (.getfield 119, 3)) lg_12_119 (RC_0 hL).1) ?_
    refine ai (p_aload_n (pc := 18) (k := 0) (by decide +kernel : decode k_R_isTrue.2.1 18 = .ok (.aload_n 0, 1)) rfl rfl) ?_
    refine ai (p_getr (pc := 19) (RR_1577_0 hL) (by decide +kernel : decode k_R_isTrue.2.1 19 = .ok (.getfield 107, 3)) lg_12_107 (RC_0 hL).1) ?_
    refine ai (r_iload_n (pc := 22) (k := 1) (by decide +kernel : decode k_R_isTrue.2.1 22 = .ok (.iload_n 1, 1)) rfl rfl) ?_
    obtain ⟨g3, h⟩ := gd_some h
    refine ai (p_iald (pc := 23) (by decide +kernel : decode k_R_isTrue.2.1 23 = .ok (.iaload, 1)) (RC_30 hL).1 (RC_30 hL).2 g3) ?_
    obtain ⟨g4, h⟩ := gd_some h
    refine ai (p_iald (pc := 24) (by decide +kernel : decode k_R_isTrue.2.1 24 = .ok (.iaload, 1)) (RC_34 hL).1 (RC_34 hL).2 g4) ?_
    refine ai (r_ishr (pc := 25) (by decide +kernel : decode k_R_isTrue.2.1 25 = .ok (.ishr, 1))) ?_
    refine ai (r_iconst (pc := 26) (by decide +kernel : decode k_R_isTrue.2.1 26 = .ok (.iconst 1, 1)) ic_1) ?_
    refine ai (r_iand (pc := 27) (by decide +kernel : decode k_R_isTrue.2.1 27 = .ok (.iand, 1))) ?_
    refine ai (r_iconst (pc := 28) (by decide +kernel : decode k_R_isTrue.2.1 28 = .ok (.iconst 1, 1)) ic_1) ?_
    rcases ite_some h with ⟨c5, h⟩ | ⟨c5, h⟩
    · refine ai (r_icmp_ne_f (pc := 29) 36 (by decide +kernel : decode k_R_isTrue.2.1 29 = .ok (.if_icmp .ne (7), 3)) (by decide) c5) ?_
      refine ai (r_iconst (pc := 32) (by decide +kernel : decode k_R_isTrue.2.1 32 = .ok (.iconst 1, 1)) ic_1) ?_
      refine ai (r_goto (pc := 33) (tgt := 37) (by decide +kernel : decode k_R_isTrue.2.1 33 = .ok (.goto (4), 3)) (by decide)) ?_
      exact (R_isTrue_37_run hL h)
    · refine ai (r_icmp_ne_t (pc := 29) (tgt := 36) (by decide +kernel : decode k_R_isTrue.2.1 29 = .ok (.if_icmp .ne (7), 3)) (by decide) c5) ?_
      refine ai (r_iconst (pc := 36) (by decide +kernel : decode k_R_isTrue.2.1 36 = .ok (.iconst 0, 1)) ic_0) ?_
      exact (R_isTrue_37_run hL h)
  · refine ai (r_icmp_ne_t (pc := 7) (tgt := 41) (by decide +kernel : decode k_R_isTrue.2.1 7 = .ok (.if_icmp .ne (34), 3)) (by decide) c2) ?_
    refine ai (p_aload_n (pc := 41) (k := 0) (by decide +kernel : decode k_R_isTrue.2.1 41 = .ok (.aload_n 0, 1)) rfl rfl) ?_
    refine ai (p_aload_n (pc := 42) (k := 0) (by decide +kernel : decode k_R_isTrue.2.1 42 = .ok (.aload_n 0, 1)) rfl rfl) ?_
    refine ai (p_getr (pc := 43) (RR_1577_0 hL) (by decide +kernel : decode k_R_isTrue.2.1 43 = .ok (.getfield 107, 3)) lg_12_107 (RC_0 hL).1) ?_
    refine ai (r_iload_n (pc := 46) (k := 1) (by decide +kernel : decode k_R_isTrue.2.1 46 = .ok (.iload_n 1, 1)) rfl rfl) ?_
    obtain ⟨g6, h⟩ := gd_some h
    refine ai (p_iald (pc := 47) (by decide +kernel : decode k_R_isTrue.2.1 47 = .ok (.iaload, 1)) (RC_30 hL).1 (RC_30 hL).2 g6) ?_
    refine ai (p_aload_n (pc := 48) (k := 0) (by decide +kernel : decode k_R_isTrue.2.1 48 = .ok (.aload_n 0, 1)) rfl rfl) ?_
    refine ai (p_getr (pc := 49) (RR_1578_0 hL) (by decide +kernel : decode k_R_isTrue.2.1 49 = .ok (.getfield 110, 3)) lg_12_110 (RC_0 hL).1) ?_
    refine ai (r_iload_n (pc := 52) (k := 1) (by decide +kernel : decode k_R_isTrue.2.1 52 = .ok (.iload_n 1, 1)) rfl rfl) ?_
    obtain ⟨g7, h⟩ := gd_some h
    refine ai (p_iald (pc := 53) (by decide +kernel : decode k_R_isTrue.2.1 53 = .ok (.iaload, 1)) (RC_31 hL).1 (RC_31 hL).2 g7) ?_
    obtain ⟨r8, m9, hr8, h⟩ := bn_some h
    have q10 := R_termOf_run hL hr8
    have c11 := (RC_0 hL).1
    have hL := q10.2
    refine ai (q_callV (pc := 54) (As := [.int (aI m 30 (ix x1)), .int (aI m 31 (ix x1))]) (st := []) (st2 := [.int r8]) (b := 0) rfl rfl (by decide +kernel : decode k_R_isTrue.2.1 54 = .ok (.invokevirtual 471, 3)) lc_12_471 mo_R_termOf ⟨Nat.le_of_ble_eq_true rfl, Nat.le_of_ble_eq_true rfl⟩ (Nat.le_of_ble_eq_true rfl) (Nat.le_of_ble_eq_true rfl) c11 q10.1) ?_
    refine ai (e_istore_n (pc := 57) rfl (by decide +kernel : decode k_R_isTrue.2.1 57 = .ok (.istore_n 3, 1)) rfl (by decide) rfl) ?_
    refine ai (p_aload_n (pc := 58) (k := 1) (by decide +kernel : decode k_R_isTrue.2.1 58 = .ok (.aload_n 0, 1)) rfl rfl) ?_
    refine ai (r_getI (pc := 59) (by decide +kernel : decode k_R_isTrue.2.1 59 = .ok (.getfield 464, 3)) lg_12_464 (by decide) (RC_0 hL).1) ?_
    obtain ⟨v12, hv12, h⟩ := vb_some h
    refine ai (e_istore (pc := 62) hv12 (by decide +kernel : decode k_R_isTrue.2.1 62 = .ok (.istore 4, 2)) (by decide) rfl) ?_
    refine ai (p_aload_n (pc := 64) (k := 2) (by decide +kernel : decode k_R_isTrue.2.1 64 = .ok (.aload_n 0, 1)) rfl rfl) ?_
    refine ai (p_aload_n (pc := 65) (k := 2) (by decide +kernel : decode k_R_isTrue.2.1 65 = .ok (.aload_n 0, 1)) rfl rfl) ?_
    refine ai (p_getr (pc := 66) (RR_1578_0 hL) (by decide +kernel : decode k_R_isTrue.2.1 66 = .ok (.getfield 110, 3)) lg_12_110 (RC_0 hL).1) ?_
    refine ai (r_iload_n (pc := 69) (k := 3) (by decide +kernel : decode k_R_isTrue.2.1 69 = .ok (.iload_n 1, 1)) rfl rfl) ?_
    obtain ⟨g13, h⟩ := gd_some h
    refine ai (p_iald (pc := 70) (by decide +kernel : decode k_R_isTrue.2.1 70 = .ok (.iaload, 1)) (RC_31 hL).1 (RC_31 hL).2 g13) ?_
    refine ai (p_aload_n (pc := 71) (k := 2) (by decide +kernel : decode k_R_isTrue.2.1 71 = .ok (.aload_n 0, 1)) rfl rfl) ?_
    refine ai (p_getr (pc := 72) (RR_1579_0 hL) (by decide +kernel : decode k_R_isTrue.2.1 72 = .ok (.getfield 113, 3)) lg_12_113 (RC_0 hL).1) ?_
    refine ai (r_iload_n (pc := 75) (k := 3) (by decide +kernel : decode k_R_isTrue.2.1 75 = .ok (.iload_n 1, 1)) rfl rfl) ?_
    obtain ⟨g14, h⟩ := gd_some h
    refine ai (p_iald (pc := 76) (by decide +kernel : decode k_R_isTrue.2.1 76 = .ok (.iaload, 1)) (RC_32 hL).1 (RC_32 hL).2 g14) ?_
    obtain ⟨r15, m16, hr15, h⟩ := bn_some h
    have q17 := R_termOf_run hL hr15
    have c18 := (RC_0 hL).1
    have hL := q17.2
    refine ai (q_callV (pc := 77) (As := [.int (aI m9 31 (ix x1)), .int (aI m9 32 (ix x1))]) (st := []) (st2 := [.int r15]) (b := 0) rfl rfl (by decide +kernel : decode k_R_isTrue.2.1 77 = .ok (.invokevirtual 471, 3)) lc_12_471 mo_R_termOf ⟨Nat.le_of_ble_eq_true rfl, Nat.le_of_ble_eq_true rfl⟩ (Nat.le_of_ble_eq_true rfl) (Nat.le_of_ble_eq_true rfl) c18 q17.1) ?_
    refine ai (e_istore (pc := 80) rfl (by decide +kernel : decode k_R_isTrue.2.1 80 = .ok (.istore 5, 2)) (by decide) rfl) ?_
    refine ai (r_iload (pc := 82) (k := 1) (by decide +kernel : decode k_R_isTrue.2.1 82 = .ok (.iload 4, 2)) rfl) ?_
    rcases ite_some h with ⟨c19, h⟩ | ⟨c19, h⟩
    · refine ai (r_if_ne_f (pc := 84) 94 (by decide +kernel : decode k_R_isTrue.2.1 84 = .ok (.ifCond .ne (10), 3)) (by decide) c19) ?_
      refine ai (p_aload_n (pc := 87) (k := 3) (by decide +kernel : decode k_R_isTrue.2.1 87 = .ok (.aload_n 0, 1)) rfl rfl) ?_
      refine ai (r_getI (pc := 88) (by decide +kernel : decode k_R_isTrue.2.1 88 = .ok (.getfield 464, 3)) lg_12_464 (by decide) (RC_0 hL).1) ?_
      rcases ite_some h with ⟨c20, h⟩ | ⟨c20, h⟩
      · refine ai (r_if_eq_t (pc := 91) (tgt := 98) (by decide +kernel : decode k_R_isTrue.2.1 91 = .ok (.ifCond .eq (7), 3)) (by decide) c20) ?_
        refine ai (r_iconst (pc := 98) (by decide +kernel : decode k_R_isTrue.2.1 98 = .ok (.iconst 0, 1)) ic_0) ?_
        exact (ai (r_sub [3, 4, 2, 0] rfl) (R_isTrue_99_run hL h))
      · refine ai (r_if_eq_f (pc := 91) 98 (by decide +kernel : decode k_R_isTrue.2.1 91 = .ok (.ifCond .eq (7), 3)) (by decide) c20) ?_
        exact (ai (r_sub [3, 4, 2, 0] rfl) (R_isTrue_94_run hL h))
    · refine ai (r_if_ne_t (pc := 84) (tgt := 94) (by decide +kernel : decode k_R_isTrue.2.1 84 = .ok (.ifCond .ne (10), 3)) (by decide) c19) ?_
      exact (ai (r_sub [3, 4, 2, 0] rfl) (R_isTrue_94_run hL h))
set_option maxRecDepth 100000 in
set_option maxHeartbeats 4000000 in
theorem R_holds_79_run {k26 : Int32 → Int32 → Int32 → Mem → Option (Int32 × Mem)} {x1 : Int32} {x3 : Int32} {s0 : Int32} {m m' : Mem} {r : Int32} (hk26 : ∀ (x1 : Int32) (x2 : Int32) (x3 : Int32) (m : Mem) (r : Int32) (m' : Mem), RL m → k26 x1 x2 x3 m = some (r, m') → Run k_R_holds 26 [(0, .ref 0), (1, .int x1), (2, .int x2), (3, .int x3)] [] m (some (.int r)) m' ∧ RL m') (hL : RL m) (h : R_holds_79 k26 x1 x3 s0 m = some (r, m')) : Run k_R_holds 79 [(0, .ref 0), (1, .int x1), (3, .int x3)] [.int s0] m (some (.int r)) m' ∧ RL m' := by
  unfold R_holds_79 at h
  refine ai (e_istore_n (pc := 79) rfl (by decide +kernel : decode k_R_holds.2.1 79 = .ok (.istore_n 2, 1)) rfl (by decide) rfl) ?_
  obtain ⟨v1, hv1, h⟩ := vb_some h
  refine ai (e_iinc (pc := 80) (k := 3) hv1 ic_1 (by decide +kernel : decode k_R_holds.2.1 80 = .ok (.iinc 3 (1), 3)) rfl (by decide) rfl) ?_
  refine ai (r_goto (pc := 83) (tgt := 26) (by decide +kernel : decode k_R_holds.2.1 83 = .ok (.goto (-57), 3)) (by decide)) ?_
  exact (ai (r_sub [2, 3, 1, 0] rfl) (hk26 x1 s0 v1 m _ _ hL h))
set_option maxRecDepth 100000 in
set_option maxHeartbeats 4000000 in
theorem R_holds_78_run {k26 : Int32 → Int32 → Int32 → Mem → Option (Int32 × Mem)} {x1 : Int32} {x3 : Int32} {m m' : Mem} {r : Int32} (hk26 : ∀ (x1 : Int32) (x2 : Int32) (x3 : Int32) (m : Mem) (r : Int32) (m' : Mem), RL m → k26 x1 x2 x3 m = some (r, m') → Run k_R_holds 26 [(0, .ref 0), (1, .int x1), (2, .int x2), (3, .int x3)] [] m (some (.int r)) m' ∧ RL m') (hL : RL m) (h : R_holds_78 k26 x1 x3 m = some (r, m')) : Run k_R_holds 78 [(0, .ref 0), (1, .int x1), (3, .int x3)] [] m (some (.int r)) m' ∧ RL m' := by
  unfold R_holds_78 at h
  refine ai (r_iconst (pc := 78) (by decide +kernel : decode k_R_holds.2.1 78 = .ok (.iconst 0, 1)) ic_0) ?_
  exact (R_holds_79_run hk26 hL h)
set_option maxRecDepth 100000 in
set_option maxHeartbeats 4000000 in
theorem R_holds_62_run {k26 : Int32 → Int32 → Int32 → Mem → Option (Int32 × Mem)} {x1 : Int32} {x2 : Int32} {x3 : Int32} {m m' : Mem} {r : Int32} (hk26 : ∀ (x1 : Int32) (x2 : Int32) (x3 : Int32) (m : Mem) (r : Int32) (m' : Mem), RL m → k26 x1 x2 x3 m = some (r, m') → Run k_R_holds 26 [(0, .ref 0), (1, .int x1), (2, .int x2), (3, .int x3)] [] m (some (.int r)) m' ∧ RL m') (hL : RL m) (h : R_holds_62 k26 x1 x2 x3 m = some (r, m')) : Run k_R_holds 62 [(0, .ref 0), (1, .int x1), (2, .int x2), (3, .int x3)] [] m (some (.int r)) m' ∧ RL m' := by
  unfold R_holds_62 at h
  refine ai (r_iload_n (pc := 62) (k := 2) (by decide +kernel : decode k_R_holds.2.1 62 = .ok (.iload_n 2, 1)) rfl rfl) ?_
  rcases ite_some h with ⟨c1, h⟩ | ⟨c1, h⟩
  · refine ai (r_if_eq_t (pc := 63) (tgt := 78) (by decide +kernel : decode k_R_holds.2.1 63 = .ok (.ifCond .eq (15), 3)) (by decide) c1) ?_
    exact (ai (r_sub [0, 1, 3] rfl) (R_holds_78_run hk26 hL h))
  · refine ai (r_if_eq_f (pc := 63) 78 (by decide +kernel : decode k_R_holds.2.1 63 = .ok (.ifCond .eq (15), 3)) (by decide) c1) ?_
    refine ai (p_aload_n (pc := 66) (k := 0) (by decide +kernel : decode k_R_holds.2.1 66 = .ok (.aload_n 0, 1)) rfl rfl) ?_
    refine ai (r_iload_n (pc := 67) (k := 3) (by decide +kernel : decode k_R_holds.2.1 67 = .ok (.iload_n 3, 1)) rfl rfl) ?_
    obtain ⟨r2, m3, hr2, h⟩ := bn_some h
    have q4 := R_isTrue_run hL hr2
    have c5 := (RC_0 hL).1
    have hL := q4.2
    refine ai (q_callV (pc := 68) (As := [.int x3]) (st := []) (st2 := [.int r2]) (b := 0) rfl rfl (by decide +kernel : decode k_R_holds.2.1 68 = .ok (.invokevirtual 474, 3)) lc_12_474 mo_R_isTrue ⟨Nat.le_of_ble_eq_true rfl, Nat.le_of_ble_eq_true rfl⟩ (Nat.le_of_ble_eq_true rfl) (Nat.le_of_ble_eq_true rfl) c5 q4.1) ?_
    rcases ite_some h with ⟨c6, h⟩ | ⟨c6, h⟩
    · refine ai (r_if_eq_t (pc := 71) (tgt := 78) (by decide +kernel : decode k_R_holds.2.1 71 = .ok (.ifCond .eq (7), 3)) (by decide) c6) ?_
      exact (ai (r_sub [0, 1, 3] rfl) (R_holds_78_run hk26 hL h))
    · refine ai (r_if_eq_f (pc := 71) 78 (by decide +kernel : decode k_R_holds.2.1 71 = .ok (.ifCond .eq (7), 3)) (by decide) c6) ?_
      refine ai (r_iconst (pc := 74) (by decide +kernel : decode k_R_holds.2.1 74 = .ok (.iconst 1, 1)) ic_1) ?_
      refine ai (r_goto (pc := 75) (tgt := 79) (by decide +kernel : decode k_R_holds.2.1 75 = .ok (.goto (4), 3)) (by decide)) ?_
      exact (ai (r_sub [0, 1, 3] rfl) (R_holds_79_run hk26 hL h))
set_option maxRecDepth 100000 in
set_option maxHeartbeats 4000000 in
theorem R_holds_51_run {k26 : Int32 → Int32 → Int32 → Mem → Option (Int32 × Mem)} {x1 : Int32} {x2 : Int32} {x3 : Int32} {m m' : Mem} {r : Int32} (hk26 : ∀ (x1 : Int32) (x2 : Int32) (x3 : Int32) (m : Mem) (r : Int32) (m' : Mem), RL m → k26 x1 x2 x3 m = some (r, m') → Run k_R_holds 26 [(0, .ref 0), (1, .int x1), (2, .int x2), (3, .int x3)] [] m (some (.int r)) m' ∧ RL m') (hL : RL m) (h : R_holds_51 k26 x1 x2 x3 m = some (r, m')) : Run k_R_holds 51 [(0, .ref 0), (1, .int x1), (2, .int x2), (3, .int x3)] [] m (some (.int r)) m' ∧ RL m' := by
  unfold R_holds_51 at h
  refine ai (p_aload_n (pc := 51) (k := 0) (by decide +kernel : decode k_R_holds.2.1 51 = .ok (.aload_n 0, 1)) rfl rfl) ?_
  refine ai (p_getr (pc := 52) (RR_1576_0 hL) (by decide +kernel : decode k_R_holds.2.1 52 = .ok (.getfield 104, 3)) lg_12_104 (RC_0 hL).1) ?_
  refine ai (r_iload_n (pc := 55) (k := 3) (by decide +kernel : decode k_R_holds.2.1 55 = .ok (.iload_n 3, 1)) rfl rfl) ?_
  obtain ⟨g1, h⟩ := gd_some h
  refine ai (p_zald (pc := 56) (by decide +kernel : decode k_R_holds.2.1 56 = .ok (.baload, 1)) (RC_29 hL).1 (RC_29 hL).2 g1) ?_
  rcases ite_some h with ⟨c2, h⟩ | ⟨c2, h⟩
  · refine ai (r_if_eq_t (pc := 57) (tgt := 62) (by decide +kernel : decode k_R_holds.2.1 57 = .ok (.ifCond .eq (5), 3)) (by decide) c2) ?_
    exact (R_holds_62_run hk26 hL h)
  · refine ai (r_if_eq_f (pc := 57) 62 (by decide +kernel : decode k_R_holds.2.1 57 = .ok (.ifCond .eq (5), 3)) (by decide) c2) ?_
    refine ai (r_iconst (pc := 60) (by decide +kernel : decode k_R_holds.2.1 60 = .ok (.iconst 1, 1)) ic_1) ?_
    refine ai (e_istore_n (pc := 61) rfl (by decide +kernel : decode k_R_holds.2.1 61 = .ok (.istore_n 2, 1)) rfl (by decide) rfl) ?_
    exact (ai (r_sub [1, 2, 0, 3] rfl) (R_holds_62_run hk26 hL h))
set_option maxRecDepth 100000 in
set_option maxHeartbeats 4000000 in
theorem R_holds_26_run {n : Nat} {x1 : Int32} {x2 : Int32} {x3 : Int32} {m m' : Mem} {r : Int32} (hL : RL m) (h : R_holds_26 n x1 x2 x3 m = some (r, m')) : Run k_R_holds 26 [(0, .ref 0), (1, .int x1), (2, .int x2), (3, .int x3)] [] m (some (.int r)) m' ∧ RL m' := by
  induction n generalizing x1 x2 x3 m r m' with
  | zero => exact absurd h (by simp [R_holds_26])
  | succ n ih =>
    rw [R_holds_26.eq_2] at h
    refine ai (r_iload_n (pc := 26) (k := 3) (by decide +kernel : decode k_R_holds.2.1 26 = .ok (.iload_n 3, 1)) rfl rfl) ?_
    refine ai (p_aload_n (pc := 27) (k := 0) (by decide +kernel : decode k_R_holds.2.1 27 = .ok (.aload_n 0, 1)) rfl rfl) ?_
    refine ai (p_getr (pc := 28) (RR_1571_0 hL) (by decide +kernel : decode k_R_holds.2.1 28 = .ok (.getfield 89, 3)) lg_12_89 (RC_0 hL).1) ?_
    refine ai (r_iload_n (pc := 31) (k := 1) (by decide +kernel : decode k_R_holds.2.1 31 = .ok (.iload_n 1, 1)) rfl rfl) ?_
    obtain ⟨g1, h⟩ := gd_some h
    refine ai (p_iald (pc := 32) (by decide +kernel : decode k_R_holds.2.1 32 = .ok (.iaload, 1)) (RC_24 hL).1 (RC_24 hL).2 g1) ?_
    rcases ite_some h with ⟨c2, h⟩ | ⟨c2, h⟩
    · refine ai (r_icmp_ge_t (pc := 33) (tgt := 86) (by decide +kernel : decode k_R_holds.2.1 33 = .ok (.if_icmp .ge (53), 3)) (by decide) c2) ?_
      refine ai (r_iload_n (pc := 86) (k := 2) (by decide +kernel : decode k_R_holds.2.1 86 = .ok (.iload_n 2, 1)) rfl rfl) ?_
      obtain ⟨z3, h⟩ := gz_some h
      cases h
      exact ⟨r_zret z3 rfl (by decide +kernel : decode k_R_holds.2.1 87 = .ok (.ireturn, 1)), hL⟩
    · refine ai (r_icmp_ge_f (pc := 33) 86 (by decide +kernel : decode k_R_holds.2.1 33 = .ok (.if_icmp .ge (53), 3)) (by decide) c2) ?_
      refine ai (p_aload_n (pc := 36) (k := 0) (by decide +kernel : decode k_R_holds.2.1 36 = .ok (.aload_n 0, 1)) rfl rfl) ?_
      refine ai (p_getr (pc := 37) (RR_1576_0 hL) (by decide +kernel : decode k_R_holds.2.1 37 = .ok (.getfield 104, 3)) lg_12_104 (RC_0 hL).1) ?_
      refine ai (r_iload_n (pc := 40) (k := 3) (by decide +kernel : decode k_R_holds.2.1 40 = .ok (.iload_n 3, 1)) rfl rfl) ?_
      obtain ⟨g4, h⟩ := gd_some h
      refine ai (p_zald (pc := 41) (by decide +kernel : decode k_R_holds.2.1 41 = .ok (.baload, 1)) (RC_29 hL).1 (RC_29 hL).2 g4) ?_
      rcases ite_some h with ⟨c5, h⟩ | ⟨c5, h⟩
      · refine ai (r_if_eq_t (pc := 42) (tgt := 51) (by decide +kernel : decode k_R_holds.2.1 42 = .ok (.ifCond .eq (9), 3)) (by decide) c5) ?_
        exact (R_holds_51_run (fun _ _ _ _ _ _ q1 q3 => ih q1 q3) hL h)
      · refine ai (r_if_eq_f (pc := 42) 51 (by decide +kernel : decode k_R_holds.2.1 42 = .ok (.ifCond .eq (9), 3)) (by decide) c5) ?_
        refine ai (r_iload_n (pc := 45) (k := 2) (by decide +kernel : decode k_R_holds.2.1 45 = .ok (.iload_n 2, 1)) rfl rfl) ?_
        rcases ite_some h with ⟨c6, h⟩ | ⟨c6, h⟩
        · refine ai (r_if_eq_t (pc := 46) (tgt := 51) (by decide +kernel : decode k_R_holds.2.1 46 = .ok (.ifCond .eq (5), 3)) (by decide) c6) ?_
          exact (R_holds_51_run (fun _ _ _ _ _ _ q1 q3 => ih q1 q3) hL h)
        · refine ai (r_if_eq_f (pc := 46) 51 (by decide +kernel : decode k_R_holds.2.1 46 = .ok (.ifCond .eq (5), 3)) (by decide) c6) ?_
          refine ai (r_iconst (pc := 49) (by decide +kernel : decode k_R_holds.2.1 49 = .ok (.iconst 1, 1)) ic_1) ?_
          cases h
          exact ⟨r_zret (by decide) rfl (by decide +kernel : decode k_R_holds.2.1 50 = .ok (.ireturn, 1)), hL⟩
set_option maxRecDepth 100000 in
set_option maxHeartbeats 4000000 in
theorem R_holds_run {x1 : Int32} {m m' : Mem} {r : Int32} (hL : RL m) (h : R_holds x1 m = some (r, m')) : Run k_R_holds 0 [(0, .ref 0), (1, .int x1)] [] m (some (.int r)) m' ∧ RL m' := by
  unfold R_holds at h
  refine ai (p_aload_n (pc := 0) (k := 0) (by decide +kernel : decode k_R_holds.2.1 0 = .ok (.aload_n 0, 1)) rfl rfl) ?_
  refine ai (p_getr (pc := 1) (RR_1570_0 hL) (by decide +kernel : decode k_R_holds.2.1 1 = .ok (.getfield 86, 3)) lg_12_86 (RC_0 hL).1) ?_
  refine ai (r_iload_n (pc := 4) (k := 1) (by decide +kernel : decode k_R_holds.2.1 4 = .ok (.iload_n 1, 1)) rfl rfl) ?_
  obtain ⟨g1, h⟩ := gd_some h
  refine ai (p_iald (pc := 5) (by decide +kernel : decode k_R_holds.2.1 5 = .ok (.iaload, 1)) (RC_23 hL).1 (RC_23 hL).2 g1) ?_
  refine ai (p_aload_n (pc := 6) (k := 0) (by decide +kernel : decode k_R_holds.2.1 6 = .ok (.aload_n 0, 1)) rfl rfl) ?_
  refine ai (p_getr (pc := 7) (RR_1571_0 hL) (by decide +kernel : decode k_R_holds.2.1 7 = .ok (.getfield 89, 3)) lg_12_89 (RC_0 hL).1) ?_
  refine ai (r_iload_n (pc := 10) (k := 1) (by decide +kernel : decode k_R_holds.2.1 10 = .ok (.iload_n 1, 1)) rfl rfl) ?_
  obtain ⟨g2, h⟩ := gd_some h
  refine ai (p_iald (pc := 11) (by decide +kernel : decode k_R_holds.2.1 11 = .ok (.iaload, 1)) (RC_24 hL).1 (RC_24 hL).2 g2) ?_
  rcases ite_some h with ⟨c3, h⟩ | ⟨c3, h⟩
  · refine ai (r_icmp_ne_f (pc := 12) 17 (by decide +kernel : decode k_R_holds.2.1 12 = .ok (.if_icmp .ne (5), 3)) (by decide) c3) ?_
    refine ai (r_iconst (pc := 15) (by decide +kernel : decode k_R_holds.2.1 15 = .ok (.iconst 1, 1)) ic_1) ?_
    cases h
    exact ⟨r_zret (by decide) rfl (by decide +kernel : decode k_R_holds.2.1 16 = .ok (.ireturn, 1)), hL⟩
  · refine ai (r_icmp_ne_t (pc := 12) (tgt := 17) (by decide +kernel : decode k_R_holds.2.1 12 = .ok (.if_icmp .ne (5), 3)) (by decide) c3) ?_
    refine ai (r_iconst (pc := 17) (by decide +kernel : decode k_R_holds.2.1 17 = .ok (.iconst 0, 1)) ic_0) ?_
    refine ai (e_istore_n (pc := 18) rfl (by decide +kernel : decode k_R_holds.2.1 18 = .ok (.istore_n 2, 1)) rfl (by decide) rfl) ?_
    refine ai (p_aload_n (pc := 19) (k := 1) (by decide +kernel : decode k_R_holds.2.1 19 = .ok (.aload_n 0, 1)) rfl rfl) ?_
    refine ai (p_getr (pc := 20) (RR_1570_0 hL) (by decide +kernel : decode k_R_holds.2.1 20 = .ok (.getfield 86, 3)) lg_12_86 (RC_0 hL).1) ?_
    refine ai (r_iload_n (pc := 23) (k := 2) (by decide +kernel : decode k_R_holds.2.1 23 = .ok (.iload_n 1, 1)) rfl rfl) ?_
    obtain ⟨g4, h⟩ := gd_some h
    refine ai (p_iald (pc := 24) (by decide +kernel : decode k_R_holds.2.1 24 = .ok (.iaload, 1)) (RC_23 hL).1 (RC_23 hL).2 g4) ?_
    obtain ⟨v5, hv5, h⟩ := vb_some h
    refine ai (e_istore_n (pc := 25) hv5 (by decide +kernel : decode k_R_holds.2.1 25 = .ok (.istore_n 3, 1)) rfl (by decide) rfl) ?_
    exact (ai (r_sub [2, 3, 1, 0] rfl) (R_holds_26_run hL h))
set_option maxRecDepth 100000 in
set_option maxHeartbeats 4000000 in
theorem R_isBinding_39_run {k5 : Int32 → Int32 → Mem → Option (Int32 × Mem)} {x1 : Int32} {x2 : Int32} {m m' : Mem} {r : Int32} (hk5 : ∀ (x1 : Int32) (x2 : Int32) (m : Mem) (r : Int32) (m' : Mem), RL m → k5 x1 x2 m = some (r, m') → Run k_R_isBinding 5 [(0, .ref 0), (1, .int x1), (2, .int x2)] [] m (some (.int r)) m' ∧ RL m') (hL : RL m) (h : R_isBinding_39 k5 x1 x2 m = some (r, m')) : Run k_R_isBinding 39 [(0, .ref 0), (1, .int x1), (2, .int x2)] [] m (some (.int r)) m' ∧ RL m' := by
  unfold R_isBinding_39 at h
  obtain ⟨v1, hv1, h⟩ := vb_some h
  refine ai (e_iinc (pc := 39) (k := 2) hv1 ic_1 (by decide +kernel : decode k_R_isBinding.2.1 39 = .ok (.iinc 2 (1), 3)) rfl (by decide) rfl) ?_
  refine ai (r_goto (pc := 42) (tgt := 5) (by decide +kernel : decode k_R_isBinding.2.1 42 = .ok (.goto (-37), 3)) (by decide)) ?_
  exact (ai (r_sub [1, 2, 0] rfl) (hk5 x1 v1 m _ _ hL h))
set_option maxRecDepth 100000 in
set_option maxHeartbeats 4000000 in
theorem R_isBinding_5_run {n : Nat} {x1 : Int32} {x2 : Int32} {m m' : Mem} {r : Int32} (hL : RL m) (h : R_isBinding_5 n x1 x2 m = some (r, m')) : Run k_R_isBinding 5 [(0, .ref 0), (1, .int x1), (2, .int x2)] [] m (some (.int r)) m' ∧ RL m' := by
  induction n generalizing x1 x2 m r m' with
  | zero => exact absurd h (by simp [R_isBinding_5])
  | succ n ih =>
    rw [R_isBinding_5.eq_2] at h
    refine ai (r_iload_n (pc := 5) (k := 2) (by decide +kernel : decode k_R_isBinding.2.1 5 = .ok (.iload_n 2, 1)) rfl rfl) ?_
    refine ai (r_bipush (pc := 6) (by decide +kernel : decode k_R_isBinding.2.1 6 = .ok (.bipush (30), 2)) (by decide : _ = (30 : Int32))) ?_
    refine ai (r_iload_n (pc := 8) (k := 1) (by decide +kernel : decode k_R_isBinding.2.1 8 = .ok (.iload_n 1, 1)) rfl rfl) ?_
    refine ai (r_imul (pc := 9) (by decide +kernel : decode k_R_isBinding.2.1 9 = .ok (.imul, 1))) ?_
    refine ai (p_aload_n (pc := 10) (k := 0) (by decide +kernel : decode k_R_isBinding.2.1 10 = .ok (.aload_n 0, 1)) rfl rfl) ?_
    refine ai (p_getr (pc := 11) (RR_1561_0 hL) (by decide +kernel : decode k_R_isBinding.2.1 11 = .ok (.getfield 58, 3)) lg_12_58 (RC_0 hL).1) ?_
    refine ai (r_iload_n (pc := 14) (k := 1) (by decide +kernel : decode k_R_isBinding.2.1 14 = .ok (.iload_n 1, 1)) rfl rfl) ?_
    obtain ⟨g1, h⟩ := gd_some h
    refine ai (p_iald (pc := 15) (by decide +kernel : decode k_R_isBinding.2.1 15 = .ok (.iaload, 1)) (RC_14 hL).1 (RC_14 hL).2 g1) ?_
    refine ai (r_iadd (pc := 16) (by decide +kernel : decode k_R_isBinding.2.1 16 = .ok (.iadd, 1))) ?_
    rcases ite_some h with ⟨c2, h⟩ | ⟨c2, h⟩
    · refine ai (r_icmp_ge_t (pc := 17) (tgt := 45) (by decide +kernel : decode k_R_isBinding.2.1 17 = .ok (.if_icmp .ge (28), 3)) (by decide) c2) ?_
      refine ai (r_iconst (pc := 45) (by decide +kernel : decode k_R_isBinding.2.1 45 = .ok (.iconst 0, 1)) ic_0) ?_
      cases h
      exact ⟨r_zret (by decide) rfl (by decide +kernel : decode k_R_isBinding.2.1 46 = .ok (.ireturn, 1)), hL⟩
    · refine ai (r_icmp_ge_f (pc := 17) 45 (by decide +kernel : decode k_R_isBinding.2.1 17 = .ok (.if_icmp .ge (28), 3)) (by decide) c2) ?_
      refine ai (p_aload_n (pc := 20) (k := 0) (by decide +kernel : decode k_R_isBinding.2.1 20 = .ok (.aload_n 0, 1)) rfl rfl) ?_
      refine ai (p_getr (pc := 21) (RR_1562_0 hL) (by decide +kernel : decode k_R_isBinding.2.1 21 = .ok (.getfield 61, 3)) lg_12_61 (RC_0 hL).1) ?_
      refine ai (r_iload_n (pc := 24) (k := 2) (by decide +kernel : decode k_R_isBinding.2.1 24 = .ok (.iload_n 2, 1)) rfl rfl) ?_
      obtain ⟨g3, h⟩ := gd_some h
      refine ai (p_iald (pc := 25) (by decide +kernel : decode k_R_isBinding.2.1 25 = .ok (.iaload, 1)) (RC_15 hL).1 (RC_15 hL).2 g3) ?_
      rcases ite_some h with ⟨c4, h⟩ | ⟨c4, h⟩
      · refine ai (r_if_ne_f (pc := 26) 39 (by decide +kernel : decode k_R_isBinding.2.1 26 = .ok (.ifCond .ne (13), 3)) (by decide) c4) ?_
        refine ai (p_aload_n (pc := 29) (k := 0) (by decide +kernel : decode k_R_isBinding.2.1 29 = .ok (.aload_n 0, 1)) rfl rfl) ?_
        refine ai (r_iload_n (pc := 30) (k := 2) (by decide +kernel : decode k_R_isBinding.2.1 30 = .ok (.iload_n 2, 1)) rfl rfl) ?_
        obtain ⟨r5, m6, hr5, h⟩ := bn_some h
        have q7 := R_holds_run hL hr5
        have c8 := (RC_0 hL).1
        have hL := q7.2
        refine ai (q_callV (pc := 31) (As := [.int x2]) (st := []) (st2 := [.int r5]) (b := 0) rfl rfl (by decide +kernel : decode k_R_isBinding.2.1 31 = .ok (.invokevirtual 546, 3)) lc_12_546 mo_R_holds ⟨Nat.le_of_ble_eq_true rfl, Nat.le_of_ble_eq_true rfl⟩ (Nat.le_of_ble_eq_true rfl) (Nat.le_of_ble_eq_true rfl) c8 q7.1) ?_
        rcases ite_some h with ⟨c9, h⟩ | ⟨c9, h⟩
        · refine ai (r_if_eq_t (pc := 34) (tgt := 39) (by decide +kernel : decode k_R_isBinding.2.1 34 = .ok (.ifCond .eq (5), 3)) (by decide) c9) ?_
          exact (R_isBinding_39_run (fun _ _ _ _ _ q1 q3 => ih q1 q3) hL h)
        · refine ai (r_if_eq_f (pc := 34) 39 (by decide +kernel : decode k_R_isBinding.2.1 34 = .ok (.ifCond .eq (5), 3)) (by decide) c9) ?_
          refine ai (r_iconst (pc := 37) (by decide +kernel : decode k_R_isBinding.2.1 37 = .ok (.iconst 1, 1)) ic_1) ?_
          cases h
          exact ⟨r_zret (by decide) rfl (by decide +kernel : decode k_R_isBinding.2.1 38 = .ok (.ireturn, 1)), hL⟩
      · refine ai (r_if_ne_t (pc := 26) (tgt := 39) (by decide +kernel : decode k_R_isBinding.2.1 26 = .ok (.ifCond .ne (13), 3)) (by decide) c4) ?_
        exact (R_isBinding_39_run (fun _ _ _ _ _ q1 q3 => ih q1 q3) hL h)
set_option maxRecDepth 100000 in
set_option maxHeartbeats 4000000 in
theorem R_isBinding_run {x1 : Int32} {m m' : Mem} {r : Int32} (hL : RL m) (h : R_isBinding x1 m = some (r, m')) : Run k_R_isBinding 0 [(0, .ref 0), (1, .int x1)] [] m (some (.int r)) m' ∧ RL m' := by
  unfold R_isBinding at h
  refine ai (r_bipush (pc := 0) (by decide +kernel : decode k_R_isBinding.2.1 0 = .ok (.bipush (30), 2)) (by decide : _ = (30 : Int32))) ?_
  refine ai (r_iload_n (pc := 2) (k := 1) (by decide +kernel : decode k_R_isBinding.2.1 2 = .ok (.iload_n 1, 1)) rfl rfl) ?_
  refine ai (r_imul (pc := 3) (by decide +kernel : decode k_R_isBinding.2.1 3 = .ok (.imul, 1))) ?_
  obtain ⟨v1, hv1, h⟩ := vb_some h
  refine ai (e_istore_n (pc := 4) hv1 (by decide +kernel : decode k_R_isBinding.2.1 4 = .ok (.istore_n 2, 1)) rfl (by decide) rfl) ?_
  exact (ai (r_sub [1, 2, 0] rfl) (R_isBinding_5_run hL h))
set_option maxRecDepth 100000 in
set_option maxHeartbeats 4000000 in
theorem R_isUnder_80_run {k2 : Int32 → Int32 → Mem → Option (Int32 × Mem)} {x1 : Int32} {x2 : Int32} {m m' : Mem} {r : Int32} (hk2 : ∀ (x1 : Int32) (x2 : Int32) (m : Mem) (r : Int32) (m' : Mem), RL m → k2 x1 x2 m = some (r, m') → Run k_R_isUnder 2 [(0, .ref 0), (1, .int x1), (2, .int x2)] [] m (some (.int r)) m' ∧ RL m') (hL : RL m) (h : R_isUnder_80 k2 x1 x2 m = some (r, m')) : Run k_R_isUnder 80 [(0, .ref 0), (1, .int x1), (2, .int x2)] [] m (some (.int r)) m' ∧ RL m' := by
  unfold R_isUnder_80 at h
  obtain ⟨v1, hv1, h⟩ := vb_some h
  refine ai (e_iinc (pc := 80) (k := 2) hv1 ic_1 (by decide +kernel : decode k_R_isUnder.2.1 80 = .ok (.iinc 2 (1), 3)) rfl (by decide) rfl) ?_
  refine ai (r_goto (pc := 83) (tgt := 2) (by decide +kernel : decode k_R_isUnder.2.1 83 = .ok (.goto (-81), 3)) (by decide)) ?_
  exact (ai (r_sub [1, 2, 0] rfl) (hk2 x1 v1 m _ _ hL h))
set_option maxRecDepth 100000 in
set_option maxHeartbeats 4000000 in
theorem R_isUnder_74_run {k2 : Int32 → Int32 → Mem → Option (Int32 × Mem)} {k32 : Int32 → Int32 → Int32 → Mem → Option (Int32 × Mem)} {x1 : Int32} {x2 : Int32} {x3 : Int32} {m m' : Mem} {r : Int32} (hk2 : ∀ (x1 : Int32) (x2 : Int32) (m : Mem) (r : Int32) (m' : Mem), RL m → k2 x1 x2 m = some (r, m') → Run k_R_isUnder 2 [(0, .ref 0), (1, .int x1), (2, .int x2)] [] m (some (.int r)) m' ∧ RL m') (hk32 : ∀ (x1 : Int32) (x2 : Int32) (x3 : Int32) (m : Mem) (r : Int32) (m' : Mem), RL m → k32 x1 x2 x3 m = some (r, m') → Run k_R_isUnder 32 [(0, .ref 0), (1, .int x1), (2, .int x2), (3, .int x3)] [] m (some (.int r)) m' ∧ RL m') (hL : RL m) (h : R_isUnder_74 k2 k32 x1 x2 x3 m = some (r, m')) : Run k_R_isUnder 74 [(0, .ref 0), (1, .int x1), (2, .int x2), (3, .int x3)] [] m (some (.int r)) m' ∧ RL m' := by
  unfold R_isUnder_74 at h
  obtain ⟨v1, hv1, h⟩ := vb_some h
  refine ai (e_iinc (pc := 74) (k := 3) hv1 ic_1 (by decide +kernel : decode k_R_isUnder.2.1 74 = .ok (.iinc 3 (1), 3)) rfl (by decide) rfl) ?_
  refine ai (r_goto (pc := 77) (tgt := 32) (by decide +kernel : decode k_R_isUnder.2.1 77 = .ok (.goto (-45), 3)) (by decide)) ?_
  exact (ai (r_sub [1, 2, 3, 0] rfl) (hk32 x1 x2 v1 m _ _ hL h))
set_option maxRecDepth 100000 in
set_option maxHeartbeats 4000000 in
theorem R_isUnder_32_run {k2 : Int32 → Int32 → Mem → Option (Int32 × Mem)} {n : Nat} {x1 : Int32} {x2 : Int32} {x3 : Int32} {m m' : Mem} {r : Int32} (hk2 : ∀ (x1 : Int32) (x2 : Int32) (m : Mem) (r : Int32) (m' : Mem), RL m → k2 x1 x2 m = some (r, m') → Run k_R_isUnder 2 [(0, .ref 0), (1, .int x1), (2, .int x2)] [] m (some (.int r)) m' ∧ RL m') (hL : RL m) (h : R_isUnder_32 k2 n x1 x2 x3 m = some (r, m')) : Run k_R_isUnder 32 [(0, .ref 0), (1, .int x1), (2, .int x2), (3, .int x3)] [] m (some (.int r)) m' ∧ RL m' := by
  induction n generalizing x1 x2 x3 m r m' with
  | zero => exact absurd h (by simp [R_isUnder_32])
  | succ n ih =>
    rw [R_isUnder_32.eq_2] at h
    refine ai (r_iload_n (pc := 32) (k := 3) (by decide +kernel : decode k_R_isUnder.2.1 32 = .ok (.iload_n 3, 1)) rfl rfl) ?_
    refine ai (r_bipush (pc := 33) (by decide +kernel : decode k_R_isUnder.2.1 33 = .ok (.bipush (30), 2)) (by decide : _ = (30 : Int32))) ?_
    refine ai (r_iload_n (pc := 35) (k := 2) (by decide +kernel : decode k_R_isUnder.2.1 35 = .ok (.iload_n 2, 1)) rfl rfl) ?_
    refine ai (r_imul (pc := 36) (by decide +kernel : decode k_R_isUnder.2.1 36 = .ok (.imul, 1))) ?_
    refine ai (p_aload_n (pc := 37) (k := 0) (by decide +kernel : decode k_R_isUnder.2.1 37 = .ok (.aload_n 0, 1)) rfl rfl) ?_
    refine ai (p_getr (pc := 38) (RR_1561_0 hL) (by decide +kernel : decode k_R_isUnder.2.1 38 = .ok (.getfield 58, 3)) lg_12_58 (RC_0 hL).1) ?_
    refine ai (r_iload_n (pc := 41) (k := 2) (by decide +kernel : decode k_R_isUnder.2.1 41 = .ok (.iload_n 2, 1)) rfl rfl) ?_
    obtain ⟨g1, h⟩ := gd_some h
    refine ai (p_iald (pc := 42) (by decide +kernel : decode k_R_isUnder.2.1 42 = .ok (.iaload, 1)) (RC_14 hL).1 (RC_14 hL).2 g1) ?_
    refine ai (r_iadd (pc := 43) (by decide +kernel : decode k_R_isUnder.2.1 43 = .ok (.iadd, 1))) ?_
    rcases ite_some h with ⟨c2, h⟩ | ⟨c2, h⟩
    · refine ai (r_icmp_ge_t (pc := 44) (tgt := 80) (by decide +kernel : decode k_R_isUnder.2.1 44 = .ok (.if_icmp .ge (36), 3)) (by decide) c2) ?_
      exact (ai (r_sub [0, 1, 2] rfl) (R_isUnder_80_run hk2 hL h))
    · refine ai (r_icmp_ge_f (pc := 44) 80 (by decide +kernel : decode k_R_isUnder.2.1 44 = .ok (.if_icmp .ge (36), 3)) (by decide) c2) ?_
      refine ai (p_aload_n (pc := 47) (k := 0) (by decide +kernel : decode k_R_isUnder.2.1 47 = .ok (.aload_n 0, 1)) rfl rfl) ?_
      refine ai (p_getr (pc := 48) (RR_1562_0 hL) (by decide +kernel : decode k_R_isUnder.2.1 48 = .ok (.getfield 61, 3)) lg_12_61 (RC_0 hL).1) ?_
      refine ai (r_iload_n (pc := 51) (k := 3) (by decide +kernel : decode k_R_isUnder.2.1 51 = .ok (.iload_n 3, 1)) rfl rfl) ?_
      obtain ⟨g3, h⟩ := gd_some h
      refine ai (p_iald (pc := 52) (by decide +kernel : decode k_R_isUnder.2.1 52 = .ok (.iaload, 1)) (RC_15 hL).1 (RC_15 hL).2 g3) ?_
      refine ai (r_iconst (pc := 53) (by decide +kernel : decode k_R_isUnder.2.1 53 = .ok (.iconst 1, 1)) ic_1) ?_
      rcases ite_some h with ⟨c4, h⟩ | ⟨c4, h⟩
      · refine ai (r_icmp_ne_f (pc := 54) 74 (by decide +kernel : decode k_R_isUnder.2.1 54 = .ok (.if_icmp .ne (20), 3)) (by decide) c4) ?_
        refine ai (p_aload_n (pc := 57) (k := 0) (by decide +kernel : decode k_R_isUnder.2.1 57 = .ok (.aload_n 0, 1)) rfl rfl) ?_
        refine ai (p_getr (pc := 58) (RR_1563_0 hL) (by decide +kernel : decode k_R_isUnder.2.1 58 = .ok (.getfield 64, 3)) lg_12_64 (RC_0 hL).1) ?_
        refine ai (r_iload_n (pc := 61) (k := 3) (by decide +kernel : decode k_R_isUnder.2.1 61 = .ok (.iload_n 3, 1)) rfl rfl) ?_
        obtain ⟨g5, h⟩ := gd_some h
        refine ai (p_iald (pc := 62) (by decide +kernel : decode k_R_isUnder.2.1 62 = .ok (.iaload, 1)) (RC_16 hL).1 (RC_16 hL).2 g5) ?_
        refine ai (p_aload_n (pc := 63) (k := 0) (by decide +kernel : decode k_R_isUnder.2.1 63 = .ok (.aload_n 0, 1)) rfl rfl) ?_
        refine ai (p_getr (pc := 64) (RR_1556_0 hL) (by decide +kernel : decode k_R_isUnder.2.1 64 = .ok (.getfield 43, 3)) lg_12_43 (RC_0 hL).1) ?_
        refine ai (r_iload_n (pc := 67) (k := 1) (by decide +kernel : decode k_R_isUnder.2.1 67 = .ok (.iload_n 1, 1)) rfl rfl) ?_
        obtain ⟨g6, h⟩ := gd_some h
        refine ai (p_iald (pc := 68) (by decide +kernel : decode k_R_isUnder.2.1 68 = .ok (.iaload, 1)) (RC_9 hL).1 (RC_9 hL).2 g6) ?_
        rcases ite_some h with ⟨c7, h⟩ | ⟨c7, h⟩
        · refine ai (r_icmp_ne_f (pc := 69) 74 (by decide +kernel : decode k_R_isUnder.2.1 69 = .ok (.if_icmp .ne (5), 3)) (by decide) c7) ?_
          refine ai (r_iconst (pc := 72) (by decide +kernel : decode k_R_isUnder.2.1 72 = .ok (.iconst 1, 1)) ic_1) ?_
          cases h
          exact ⟨r_zret (by decide) rfl (by decide +kernel : decode k_R_isUnder.2.1 73 = .ok (.ireturn, 1)), hL⟩
        · refine ai (r_icmp_ne_t (pc := 69) (tgt := 74) (by decide +kernel : decode k_R_isUnder.2.1 69 = .ok (.if_icmp .ne (5), 3)) (by decide) c7) ?_
          exact (R_isUnder_74_run hk2 (fun _ _ _ _ _ _ q1 q3 => ih q1 q3) hL h)
      · refine ai (r_icmp_ne_t (pc := 54) (tgt := 74) (by decide +kernel : decode k_R_isUnder.2.1 54 = .ok (.if_icmp .ne (20), 3)) (by decide) c4) ?_
        exact (R_isUnder_74_run hk2 (fun _ _ _ _ _ _ q1 q3 => ih q1 q3) hL h)
set_option maxRecDepth 100000 in
set_option maxHeartbeats 4000000 in
theorem R_isUnder_2_run {n : Nat} {x1 : Int32} {x2 : Int32} {m m' : Mem} {r : Int32} (hL : RL m) (h : R_isUnder_2 n x1 x2 m = some (r, m')) : Run k_R_isUnder 2 [(0, .ref 0), (1, .int x1), (2, .int x2)] [] m (some (.int r)) m' ∧ RL m' := by
  induction n generalizing x1 x2 m r m' with
  | zero => exact absurd h (by simp [R_isUnder_2])
  | succ n ih =>
    rw [R_isUnder_2.eq_2] at h
    refine ai (r_iload_n (pc := 2) (k := 2) (by decide +kernel : decode k_R_isUnder.2.1 2 = .ok (.iload_n 2, 1)) rfl rfl) ?_
    refine ai (p_aload_n (pc := 3) (k := 0) (by decide +kernel : decode k_R_isUnder.2.1 3 = .ok (.aload_n 0, 1)) rfl rfl) ?_
    refine ai (r_getI (pc := 4) (by decide +kernel : decode k_R_isUnder.2.1 4 = .ok (.getfield 341, 3)) lg_12_341 (by decide) (RC_0 hL).1) ?_
    rcases ite_some h with ⟨c1, h⟩ | ⟨c1, h⟩
    · refine ai (r_icmp_ge_t (pc := 7) (tgt := 86) (by decide +kernel : decode k_R_isUnder.2.1 7 = .ok (.if_icmp .ge (79), 3)) (by decide) c1) ?_
      refine ai (r_iconst (pc := 86) (by decide +kernel : decode k_R_isUnder.2.1 86 = .ok (.iconst 0, 1)) ic_0) ?_
      cases h
      exact ⟨r_zret (by decide) rfl (by decide +kernel : decode k_R_isUnder.2.1 87 = .ok (.ireturn, 1)), hL⟩
    · refine ai (r_icmp_ge_f (pc := 7) 86 (by decide +kernel : decode k_R_isUnder.2.1 7 = .ok (.if_icmp .ge (79), 3)) (by decide) c1) ?_
      refine ai (r_iload_n (pc := 10) (k := 2) (by decide +kernel : decode k_R_isUnder.2.1 10 = .ok (.iload_n 2, 1)) rfl rfl) ?_
      refine ai (r_iload_n (pc := 11) (k := 1) (by decide +kernel : decode k_R_isUnder.2.1 11 = .ok (.iload_n 1, 1)) rfl rfl) ?_
      rcases ite_some h with ⟨c2, h⟩ | ⟨c2, h⟩
      · refine ai (r_icmp_eq_t (pc := 12) (tgt := 80) (by decide +kernel : decode k_R_isUnder.2.1 12 = .ok (.if_icmp .eq (68), 3)) (by decide) c2) ?_
        exact (R_isUnder_80_run (fun _ _ _ _ _ q1 q3 => ih q1 q3) hL h)
      · refine ai (r_icmp_eq_f (pc := 12) 80 (by decide +kernel : decode k_R_isUnder.2.1 12 = .ok (.if_icmp .eq (68), 3)) (by decide) c2) ?_
        refine ai (p_aload_n (pc := 15) (k := 0) (by decide +kernel : decode k_R_isUnder.2.1 15 = .ok (.aload_n 0, 1)) rfl rfl) ?_
        refine ai (p_getr (pc := 16) (RR_1640_0 hL) (by decide +kernel : decode k_R_isUnder.2.1 16 = .ok (.getfield 230, 3)) lg_12_230 (RC_0 hL).1) ?_
        refine ai (r_iload_n (pc := 19) (k := 2) (by decide +kernel : decode k_R_isUnder.2.1 19 = .ok (.iload_n 2, 1)) rfl rfl) ?_
        obtain ⟨g3, h⟩ := gd_some h
        refine ai (p_zald (pc := 20) (by decide +kernel : decode k_R_isUnder.2.1 20 = .ok (.baload, 1)) (RC_68 hL).1 (RC_68 hL).2 g3) ?_
        rcases ite_some h with ⟨c4, h⟩ | ⟨c4, h⟩
        · refine ai (r_if_ne_f (pc := 21) 27 (by decide +kernel : decode k_R_isUnder.2.1 21 = .ok (.ifCond .ne (6), 3)) (by decide) c4) ?_
          refine ai (r_goto (pc := 24) (tgt := 80) (by decide +kernel : decode k_R_isUnder.2.1 24 = .ok (.goto (56), 3)) (by decide)) ?_
          exact (R_isUnder_80_run (fun _ _ _ _ _ q1 q3 => ih q1 q3) hL h)
        · refine ai (r_if_ne_t (pc := 21) (tgt := 27) (by decide +kernel : decode k_R_isUnder.2.1 21 = .ok (.ifCond .ne (6), 3)) (by decide) c4) ?_
          refine ai (r_bipush (pc := 27) (by decide +kernel : decode k_R_isUnder.2.1 27 = .ok (.bipush (30), 2)) (by decide : _ = (30 : Int32))) ?_
          refine ai (r_iload_n (pc := 29) (k := 2) (by decide +kernel : decode k_R_isUnder.2.1 29 = .ok (.iload_n 2, 1)) rfl rfl) ?_
          refine ai (r_imul (pc := 30) (by decide +kernel : decode k_R_isUnder.2.1 30 = .ok (.imul, 1))) ?_
          obtain ⟨v5, hv5, h⟩ := vb_some h
          refine ai (e_istore_n (pc := 31) hv5 (by decide +kernel : decode k_R_isUnder.2.1 31 = .ok (.istore_n 3, 1)) rfl (by decide) rfl) ?_
          exact (ai (r_sub [1, 2, 3, 0] rfl) (R_isUnder_32_run (fun _ _ _ _ _ q1 q3 => ih q1 q3) hL h))
set_option maxRecDepth 100000 in
set_option maxHeartbeats 4000000 in
theorem R_isUnder_run {x1 : Int32} {m m' : Mem} {r : Int32} (hL : RL m) (h : R_isUnder x1 m = some (r, m')) : Run k_R_isUnder 0 [(0, .ref 0), (1, .int x1)] [] m (some (.int r)) m' ∧ RL m' := by
  unfold R_isUnder at h
  refine ai (r_iconst (pc := 0) (by decide +kernel : decode k_R_isUnder.2.1 0 = .ok (.iconst 0, 1)) ic_0) ?_
  refine ai (e_istore_n (pc := 1) rfl (by decide +kernel : decode k_R_isUnder.2.1 1 = .ok (.istore_n 2, 1)) rfl (by decide) rfl) ?_
  exact (ai (r_sub [1, 2, 0] rfl) (R_isUnder_2_run hL h))
set_option maxRecDepth 100000 in
set_option maxHeartbeats 4000000 in
theorem R_boundBy_61_run {k4 : Int32 → Int32 → Mem → Option (Int32 × Mem)} {x1 : Int32} {x2 : Int32} {m m' : Mem} {r : Int32} (hk4 : ∀ (x1 : Int32) (x2 : Int32) (m : Mem) (r : Int32) (m' : Mem), RL m → k4 x1 x2 m = some (r, m') → Run k_R_boundBy 4 [(0, .ref 0), (1, .int x1), (2, .int x2)] [] m (some (.int r)) m' ∧ RL m') (hL : RL m) (h : R_boundBy_61 k4 x1 x2 m = some (r, m')) : Run k_R_boundBy 61 [(0, .ref 0), (1, .int x1), (2, .int x2)] [] m (some (.int r)) m' ∧ RL m' := by
  unfold R_boundBy_61 at h
  obtain ⟨v1, hv1, h⟩ := vb_some h
  refine ai (e_iinc (pc := 61) (k := 2) hv1 ic_1 (by decide +kernel : decode k_R_boundBy.2.1 61 = .ok (.iinc 2 (1), 3)) rfl (by decide) rfl) ?_
  refine ai (r_goto (pc := 64) (tgt := 4) (by decide +kernel : decode k_R_boundBy.2.1 64 = .ok (.goto (-60), 3)) (by decide)) ?_
  exact (ai (r_sub [1, 2, 0] rfl) (hk4 x1 v1 m _ _ hL h))
set_option maxRecDepth 100000 in
set_option maxHeartbeats 4000000 in
theorem R_boundBy_48_run {k4 : Int32 → Int32 → Mem → Option (Int32 × Mem)} {x1 : Int32} {x2 : Int32} {s0 : Int32} {s1 : Int32} {m m' : Mem} {r : Int32} (hk4 : ∀ (x1 : Int32) (x2 : Int32) (m : Mem) (r : Int32) (m' : Mem), RL m → k4 x1 x2 m = some (r, m') → Run k_R_boundBy 4 [(0, .ref 0), (1, .int x1), (2, .int x2)] [] m (some (.int r)) m' ∧ RL m') (hL : RL m) (h : R_boundBy_48 k4 x1 x2 s0 s1 m = some (r, m')) : Run k_R_boundBy 48 [(0, .ref 0), (1, .int x1), (2, .int x2)] [.int s0, .int s1, .ref 68] m (some (.int r)) m' ∧ RL m' := by
  unfold R_boundBy_48 at h
  obtain ⟨g1, h⟩ := gd_some h
  obtain ⟨z2, h⟩ := gz_some h
  have c3 := (RC_68 hL).1
  have c4 := (RC_68 hL).2
  obtain ⟨m5, hm5, h⟩ := vb_some h
  have hL : RL m5 := by rw [hm5]; exact hL
  refine ai (p_zast (pc := 48) hm5 z2 (by decide +kernel : decode k_R_boundBy.2.1 48 = .ok (.bastore, 1)) c3 c4 g1) ?_
  refine ai (p_aload_n (pc := 49) (k := 0) (by decide +kernel : decode k_R_boundBy.2.1 49 = .ok (.aload_n 0, 1)) rfl rfl) ?_
  refine ai (p_getr (pc := 50) (RR_1640_0 hL) (by decide +kernel : decode k_R_boundBy.2.1 50 = .ok (.getfield 230, 3)) lg_12_230 (RC_0 hL).1) ?_
  refine ai (r_iload_n (pc := 53) (k := 2) (by decide +kernel : decode k_R_boundBy.2.1 53 = .ok (.iload_n 2, 1)) rfl rfl) ?_
  obtain ⟨g6, h⟩ := gd_some h
  refine ai (p_zald (pc := 54) (by decide +kernel : decode k_R_boundBy.2.1 54 = .ok (.baload, 1)) (RC_68 hL).1 (RC_68 hL).2 g6) ?_
  rcases ite_some h with ⟨c7, h⟩ | ⟨c7, h⟩
  · refine ai (r_if_eq_t (pc := 55) (tgt := 61) (by decide +kernel : decode k_R_boundBy.2.1 55 = .ok (.ifCond .eq (6), 3)) (by decide) c7) ?_
    exact (R_boundBy_61_run hk4 hL h)
  · refine ai (r_if_eq_f (pc := 55) 61 (by decide +kernel : decode k_R_boundBy.2.1 55 = .ok (.ifCond .eq (6), 3)) (by decide) c7) ?_
    obtain ⟨v8, hv8, h⟩ := vb_some h
    refine ai (e_iinc (pc := 58) (k := 1) hv8 ic_1 (by decide +kernel : decode k_R_boundBy.2.1 58 = .ok (.iinc 1 (1), 3)) rfl (by decide) rfl) ?_
    exact (ai (r_sub [1, 0, 2] rfl) (R_boundBy_61_run hk4 hL h))
set_option maxRecDepth 100000 in
set_option maxHeartbeats 4000000 in
theorem R_boundBy_47_run {k4 : Int32 → Int32 → Mem → Option (Int32 × Mem)} {x1 : Int32} {x2 : Int32} {s0 : Int32} {m m' : Mem} {r : Int32} (hk4 : ∀ (x1 : Int32) (x2 : Int32) (m : Mem) (r : Int32) (m' : Mem), RL m → k4 x1 x2 m = some (r, m') → Run k_R_boundBy 4 [(0, .ref 0), (1, .int x1), (2, .int x2)] [] m (some (.int r)) m' ∧ RL m') (hL : RL m) (h : R_boundBy_47 k4 x1 x2 s0 m = some (r, m')) : Run k_R_boundBy 47 [(0, .ref 0), (1, .int x1), (2, .int x2)] [.int s0, .ref 68] m (some (.int r)) m' ∧ RL m' := by
  unfold R_boundBy_47 at h
  refine ai (r_iconst (pc := 47) (by decide +kernel : decode k_R_boundBy.2.1 47 = .ok (.iconst 0, 1)) ic_0) ?_
  exact (R_boundBy_48_run hk4 hL h)
set_option maxRecDepth 100000 in
set_option maxHeartbeats 4000000 in
theorem R_boundBy_117_run {k80 : Int32 → Int32 → Int32 → Mem → Option (Int32 × Mem)} {x2 : Int32} {x3 : Int32} {x4 : Int32} {m m' : Mem} {r : Int32} (hk80 : ∀ (x2 : Int32) (x3 : Int32) (x4 : Int32) (m : Mem) (r : Int32) (m' : Mem), RL m → k80 x2 x3 x4 m = some (r, m') → Run k_R_boundBy 80 [(0, .ref 0), (2, .int x2), (3, .int x3), (4, .int x4)] [] m (some (.int r)) m' ∧ RL m') (hL : RL m) (h : R_boundBy_117 k80 x2 x3 x4 m = some (r, m')) : Run k_R_boundBy 117 [(0, .ref 0), (2, .int x2), (3, .int x3), (4, .int x4)] [] m (some (.int r)) m' ∧ RL m' := by
  unfold R_boundBy_117 at h
  obtain ⟨v1, hv1, h⟩ := vb_some h
  refine ai (e_iinc (pc := 117) (k := 3) hv1 ic_1 (by decide +kernel : decode k_R_boundBy.2.1 117 = .ok (.iinc 4 (1), 3)) rfl (by decide) rfl) ?_
  refine ai (r_goto (pc := 120) (tgt := 80) (by decide +kernel : decode k_R_boundBy.2.1 120 = .ok (.goto (-40), 3)) (by decide)) ?_
  exact (ai (r_sub [1, 2, 3, 0] rfl) (hk80 x2 x3 v1 m _ _ hL h))
set_option maxRecDepth 100000 in
set_option maxHeartbeats 4000000 in
theorem R_boundBy_123_run {x2 : Int32} {x3 : Int32} {m m' : Mem} {r : Int32} (hL : RL m) (h : R_boundBy_123 x2 x3 m = some (r, m')) : Run k_R_boundBy 123 [(2, .int x2), (3, .int x3)] [] m (some (.int r)) m' ∧ RL m' := by
  unfold R_boundBy_123 at h
  refine ai (r_iload_n (pc := 123) (k := 0) (by decide +kernel : decode k_R_boundBy.2.1 123 = .ok (.iload_n 2, 1)) rfl rfl) ?_
  refine ai (r_iconst (pc := 124) (by decide +kernel : decode k_R_boundBy.2.1 124 = .ok (.iconst 1, 1)) ic_1) ?_
  rcases ite_some h with ⟨c1, h⟩ | ⟨c1, h⟩
  · refine ai (r_icmp_ne_f (pc := 125) 132 (by decide +kernel : decode k_R_boundBy.2.1 125 = .ok (.if_icmp .ne (7), 3)) (by decide) c1) ?_
    refine ai (r_iload_n (pc := 128) (k := 1) (by decide +kernel : decode k_R_boundBy.2.1 128 = .ok (.iload_n 3, 1)) rfl rfl) ?_
    refine ai (r_goto (pc := 129) (tgt := 134) (by decide +kernel : decode k_R_boundBy.2.1 129 = .ok (.goto (5), 3)) (by decide)) ?_
    cases h
    exact ⟨r_iret rfl (by decide +kernel : decode k_R_boundBy.2.1 134 = .ok (.ireturn, 1)), hL⟩
  · refine ai (r_icmp_ne_t (pc := 125) (tgt := 132) (by decide +kernel : decode k_R_boundBy.2.1 125 = .ok (.if_icmp .ne (7), 3)) (by decide) c1) ?_
    refine ai (r_bipush (pc := 132) (by decide +kernel : decode k_R_boundBy.2.1 132 = .ok (.bipush (-2), 2)) (by decide : _ = (-2 : Int32))) ?_
    cases h
    exact ⟨r_iret rfl (by decide +kernel : decode k_R_boundBy.2.1 134 = .ok (.ireturn, 1)), hL⟩
set_option maxRecDepth 100000 in
set_option maxHeartbeats 4000000 in
theorem R_boundBy_80_run {n : Nat} {x2 : Int32} {x3 : Int32} {x4 : Int32} {m m' : Mem} {r : Int32} (hL : RL m) (h : R_boundBy_80 n x2 x3 x4 m = some (r, m')) : Run k_R_boundBy 80 [(0, .ref 0), (2, .int x2), (3, .int x3), (4, .int x4)] [] m (some (.int r)) m' ∧ RL m' := by
  induction n generalizing x2 x3 x4 m r m' with
  | zero => exact absurd h (by simp [R_boundBy_80])
  | succ n ih =>
    rw [R_boundBy_80.eq_2] at h
    refine ai (r_iload (pc := 80) (k := 3) (by decide +kernel : decode k_R_boundBy.2.1 80 = .ok (.iload 4, 2)) rfl) ?_
    refine ai (p_aload_n (pc := 82) (k := 0) (by decide +kernel : decode k_R_boundBy.2.1 82 = .ok (.aload_n 0, 1)) rfl rfl) ?_
    refine ai (r_getI (pc := 83) (by decide +kernel : decode k_R_boundBy.2.1 83 = .ok (.getfield 341, 3)) lg_12_341 (by decide) (RC_0 hL).1) ?_
    rcases ite_some h with ⟨c1, h⟩ | ⟨c1, h⟩
    · refine ai (r_icmp_ge_t (pc := 86) (tgt := 123) (by decide +kernel : decode k_R_boundBy.2.1 86 = .ok (.if_icmp .ge (37), 3)) (by decide) c1) ?_
      exact (ai (r_sub [1, 2] rfl) (R_boundBy_123_run hL h))
    · refine ai (r_icmp_ge_f (pc := 86) 123 (by decide +kernel : decode k_R_boundBy.2.1 86 = .ok (.if_icmp .ge (37), 3)) (by decide) c1) ?_
      refine ai (p_aload_n (pc := 89) (k := 0) (by decide +kernel : decode k_R_boundBy.2.1 89 = .ok (.aload_n 0, 1)) rfl rfl) ?_
      refine ai (p_getr (pc := 90) (RR_1640_0 hL) (by decide +kernel : decode k_R_boundBy.2.1 90 = .ok (.getfield 230, 3)) lg_12_230 (RC_0 hL).1) ?_
      refine ai (r_iload (pc := 93) (k := 3) (by decide +kernel : decode k_R_boundBy.2.1 93 = .ok (.iload 4, 2)) rfl) ?_
      obtain ⟨g2, h⟩ := gd_some h
      refine ai (p_zald (pc := 95) (by decide +kernel : decode k_R_boundBy.2.1 95 = .ok (.baload, 1)) (RC_68 hL).1 (RC_68 hL).2 g2) ?_
      rcases ite_some h with ⟨c3, h⟩ | ⟨c3, h⟩
      · refine ai (r_if_eq_t (pc := 96) (tgt := 117) (by decide +kernel : decode k_R_boundBy.2.1 96 = .ok (.ifCond .eq (21), 3)) (by decide) c3) ?_
        exact (R_boundBy_117_run (fun _ _ _ _ _ _ q1 q3 => ih q1 q3) hL h)
      · refine ai (r_if_eq_f (pc := 96) 117 (by decide +kernel : decode k_R_boundBy.2.1 96 = .ok (.ifCond .eq (21), 3)) (by decide) c3) ?_
        refine ai (p_aload_n (pc := 99) (k := 0) (by decide +kernel : decode k_R_boundBy.2.1 99 = .ok (.aload_n 0, 1)) rfl rfl) ?_
        refine ai (r_iload (pc := 100) (k := 3) (by decide +kernel : decode k_R_boundBy.2.1 100 = .ok (.iload 4, 2)) rfl) ?_
        obtain ⟨r4, m5, hr4, h⟩ := bn_some h
        have q6 := R_isUnder_run hL hr4
        have c7 := (RC_0 hL).1
        have hL := q6.2
        refine ai (q_callV (pc := 102) (As := [.int x4]) (st := []) (st2 := [.int r4]) (b := 0) rfl rfl (by decide +kernel : decode k_R_boundBy.2.1 102 = .ok (.invokevirtual 552, 3)) lc_12_552 mo_R_isUnder ⟨Nat.le_of_ble_eq_true rfl, Nat.le_of_ble_eq_true rfl⟩ (Nat.le_of_ble_eq_true rfl) (Nat.le_of_ble_eq_true rfl) c7 q6.1) ?_
        rcases ite_some h with ⟨c8, h⟩ | ⟨c8, h⟩
        · refine ai (r_if_eq_t (pc := 105) (tgt := 111) (by decide +kernel : decode k_R_boundBy.2.1 105 = .ok (.ifCond .eq (6), 3)) (by decide) c8) ?_
          obtain ⟨v9, hv9, h⟩ := vb_some h
          refine ai (e_iinc (pc := 111) (k := 1) hv9 ic_1 (by decide +kernel : decode k_R_boundBy.2.1 111 = .ok (.iinc 2 (1), 3)) rfl (by decide) rfl) ?_
          refine ai (r_iload (pc := 114) (k := 3) (by decide +kernel : decode k_R_boundBy.2.1 114 = .ok (.iload 4, 2)) rfl) ?_
          refine ai (e_istore_n (pc := 116) rfl (by decide +kernel : decode k_R_boundBy.2.1 116 = .ok (.istore_n 3, 1)) rfl (by decide) rfl) ?_
          exact (ai (r_sub [2, 1, 0, 3] rfl) (R_boundBy_117_run (fun _ _ _ _ _ _ q1 q3 => ih q1 q3) hL h))
        · refine ai (r_if_eq_f (pc := 105) 111 (by decide +kernel : decode k_R_boundBy.2.1 105 = .ok (.ifCond .eq (6), 3)) (by decide) c8) ?_
          refine ai (r_goto (pc := 108) (tgt := 117) (by decide +kernel : decode k_R_boundBy.2.1 108 = .ok (.goto (9), 3)) (by decide)) ?_
          exact (R_boundBy_117_run (fun _ _ _ _ _ _ q1 q3 => ih q1 q3) hL h)
set_option maxRecDepth 100000 in
set_option maxHeartbeats 4000000 in
theorem R_boundBy_67_run {x1 : Int32} {m m' : Mem} {r : Int32} (hL : RL m) (h : R_boundBy_67 x1 m = some (r, m')) : Run k_R_boundBy 67 [(0, .ref 0), (1, .int x1)] [] m (some (.int r)) m' ∧ RL m' := by
  unfold R_boundBy_67 at h
  refine ai (r_iload_n (pc := 67) (k := 1) (by decide +kernel : decode k_R_boundBy.2.1 67 = .ok (.iload_n 1, 1)) rfl rfl) ?_
  rcases ite_some h with ⟨c1, h⟩ | ⟨c1, h⟩
  · refine ai (r_if_ne_f (pc := 68) 73 (by decide +kernel : decode k_R_boundBy.2.1 68 = .ok (.ifCond .ne (5), 3)) (by decide) c1) ?_
    refine ai (r_iconst (pc := 71) (by decide +kernel : decode k_R_boundBy.2.1 71 = .ok (.iconst (-1), 1)) ic_m1) ?_
    cases h
    exact ⟨r_iret rfl (by decide +kernel : decode k_R_boundBy.2.1 72 = .ok (.ireturn, 1)), hL⟩
  · refine ai (r_if_ne_t (pc := 68) (tgt := 73) (by decide +kernel : decode k_R_boundBy.2.1 68 = .ok (.ifCond .ne (5), 3)) (by decide) c1) ?_
    refine ai (r_iconst (pc := 73) (by decide +kernel : decode k_R_boundBy.2.1 73 = .ok (.iconst 0, 1)) ic_0) ?_
    refine ai (e_istore_n (pc := 74) rfl (by decide +kernel : decode k_R_boundBy.2.1 74 = .ok (.istore_n 2, 1)) rfl (by decide) rfl) ?_
    refine ai (r_iconst (pc := 75) (by decide +kernel : decode k_R_boundBy.2.1 75 = .ok (.iconst (-1), 1)) ic_m1) ?_
    refine ai (e_istore_n (pc := 76) rfl (by decide +kernel : decode k_R_boundBy.2.1 76 = .ok (.istore_n 3, 1)) rfl (by decide) rfl) ?_
    refine ai (r_iconst (pc := 77) (by decide +kernel : decode k_R_boundBy.2.1 77 = .ok (.iconst 0, 1)) ic_0) ?_
    refine ai (e_istore (pc := 78) rfl (by decide +kernel : decode k_R_boundBy.2.1 78 = .ok (.istore 4, 2)) (by decide) rfl) ?_
    exact (ai (r_sub [3, 2, 1, 0] rfl) (R_boundBy_80_run hL h))
set_option maxRecDepth 100000 in
set_option maxHeartbeats 4000000 in
theorem R_boundBy_4_run {n : Nat} {x1 : Int32} {x2 : Int32} {m m' : Mem} {r : Int32} (hL : RL m) (h : R_boundBy_4 n x1 x2 m = some (r, m')) : Run k_R_boundBy 4 [(0, .ref 0), (1, .int x1), (2, .int x2)] [] m (some (.int r)) m' ∧ RL m' := by
  induction n generalizing x1 x2 m r m' with
  | zero => exact absurd h (by simp [R_boundBy_4])
  | succ n ih =>
    rw [R_boundBy_4.eq_2] at h
    refine ai (r_iload_n (pc := 4) (k := 2) (by decide +kernel : decode k_R_boundBy.2.1 4 = .ok (.iload_n 2, 1)) rfl rfl) ?_
    refine ai (p_aload_n (pc := 5) (k := 0) (by decide +kernel : decode k_R_boundBy.2.1 5 = .ok (.aload_n 0, 1)) rfl rfl) ?_
    refine ai (r_getI (pc := 6) (by decide +kernel : decode k_R_boundBy.2.1 6 = .ok (.getfield 341, 3)) lg_12_341 (by decide) (RC_0 hL).1) ?_
    rcases ite_some h with ⟨c1, h⟩ | ⟨c1, h⟩
    · refine ai (r_icmp_ge_t (pc := 9) (tgt := 67) (by decide +kernel : decode k_R_boundBy.2.1 9 = .ok (.if_icmp .ge (58), 3)) (by decide) c1) ?_
      exact (ai (r_sub [0, 1] rfl) (R_boundBy_67_run hL h))
    · refine ai (r_icmp_ge_f (pc := 9) 67 (by decide +kernel : decode k_R_boundBy.2.1 9 = .ok (.if_icmp .ge (58), 3)) (by decide) c1) ?_
      refine ai (p_aload_n (pc := 12) (k := 0) (by decide +kernel : decode k_R_boundBy.2.1 12 = .ok (.aload_n 0, 1)) rfl rfl) ?_
      refine ai (p_getr (pc := 13) (RR_1640_0 hL) (by decide +kernel : decode k_R_boundBy.2.1 13 = .ok (.getfield 230, 3)) lg_12_230 (RC_0 hL).1) ?_
      refine ai (r_iload_n (pc := 16) (k := 2) (by decide +kernel : decode k_R_boundBy.2.1 16 = .ok (.iload_n 2, 1)) rfl rfl) ?_
      refine ai (p_aload_n (pc := 17) (k := 0) (by decide +kernel : decode k_R_boundBy.2.1 17 = .ok (.aload_n 0, 1)) rfl rfl) ?_
      refine ai (p_getr (pc := 18) (RR_1555_0 hL) (by decide +kernel : decode k_R_boundBy.2.1 18 = .ok (.getfield 40, 3)) lg_12_40 (RC_0 hL).1) ?_
      refine ai (r_iload_n (pc := 21) (k := 2) (by decide +kernel : decode k_R_boundBy.2.1 21 = .ok (.iload_n 2, 1)) rfl rfl) ?_
      obtain ⟨g2, h⟩ := gd_some h
      refine ai (p_iald (pc := 22) (by decide +kernel : decode k_R_boundBy.2.1 22 = .ok (.iaload, 1)) (RC_8 hL).1 (RC_8 hL).2 g2) ?_
      rcases ite_some h with ⟨c3, h⟩ | ⟨c3, h⟩
      · refine ai (r_if_ne_f (pc := 23) 47 (by decide +kernel : decode k_R_boundBy.2.1 23 = .ok (.ifCond .ne (24), 3)) (by decide) c3) ?_
        refine ai (p_aload_n (pc := 26) (k := 0) (by decide +kernel : decode k_R_boundBy.2.1 26 = .ok (.aload_n 0, 1)) rfl rfl) ?_
        refine ai (p_getr (pc := 27) (RR_1615_0 hL) (by decide +kernel : decode k_R_boundBy.2.1 27 = .ok (.getfield 176, 3)) lg_12_176 (RC_0 hL).1) ?_
        refine ai (r_iload_n (pc := 30) (k := 2) (by decide +kernel : decode k_R_boundBy.2.1 30 = .ok (.iload_n 2, 1)) rfl rfl) ?_
        obtain ⟨g4, h⟩ := gd_some h
        refine ai (p_zald (pc := 31) (by decide +kernel : decode k_R_boundBy.2.1 31 = .ok (.baload, 1)) (RC_52 hL).1 (RC_52 hL).2 g4) ?_
        rcases ite_some h with ⟨c5, h⟩ | ⟨c5, h⟩
        · refine ai (r_if_eq_t (pc := 32) (tgt := 47) (by decide +kernel : decode k_R_boundBy.2.1 32 = .ok (.ifCond .eq (15), 3)) (by decide) c5) ?_
          exact (R_boundBy_47_run (fun _ _ _ _ _ q1 q3 => ih q1 q3) hL h)
        · refine ai (r_if_eq_f (pc := 32) 47 (by decide +kernel : decode k_R_boundBy.2.1 32 = .ok (.ifCond .eq (15), 3)) (by decide) c5) ?_
          refine ai (p_aload_n (pc := 35) (k := 0) (by decide +kernel : decode k_R_boundBy.2.1 35 = .ok (.aload_n 0, 1)) rfl rfl) ?_
          refine ai (r_iload_n (pc := 36) (k := 2) (by decide +kernel : decode k_R_boundBy.2.1 36 = .ok (.iload_n 2, 1)) rfl rfl) ?_
          obtain ⟨r6, m7, hr6, h⟩ := bn_some h
          have q8 := R_isBinding_run hL hr6
          have c9 := (RC_0 hL).1
          have hL := q8.2
          refine ai (q_callV (pc := 37) (As := [.int x2]) (st := [.int x2, .ref 68]) (st2 := [.int r6, .int x2, .ref 68]) (b := 0) rfl rfl (by decide +kernel : decode k_R_boundBy.2.1 37 = .ok (.invokevirtual 549, 3)) lc_12_549 mo_R_isBinding ⟨Nat.le_of_ble_eq_true rfl, Nat.le_of_ble_eq_true rfl⟩ (Nat.le_of_ble_eq_true rfl) (Nat.le_of_ble_eq_true rfl) c9 q8.1) ?_
          rcases ite_some h with ⟨c10, h⟩ | ⟨c10, h⟩
          · refine ai (r_if_eq_t (pc := 40) (tgt := 47) (by decide +kernel : decode k_R_boundBy.2.1 40 = .ok (.ifCond .eq (7), 3)) (by decide) c10) ?_
            exact (R_boundBy_47_run (fun _ _ _ _ _ q1 q3 => ih q1 q3) hL h)
          · refine ai (r_if_eq_f (pc := 40) 47 (by decide +kernel : decode k_R_boundBy.2.1 40 = .ok (.ifCond .eq (7), 3)) (by decide) c10) ?_
            refine ai (r_iconst (pc := 43) (by decide +kernel : decode k_R_boundBy.2.1 43 = .ok (.iconst 1, 1)) ic_1) ?_
            refine ai (r_goto (pc := 44) (tgt := 48) (by decide +kernel : decode k_R_boundBy.2.1 44 = .ok (.goto (4), 3)) (by decide)) ?_
            exact (R_boundBy_48_run (fun _ _ _ _ _ q1 q3 => ih q1 q3) hL h)
      · refine ai (r_if_ne_t (pc := 23) (tgt := 47) (by decide +kernel : decode k_R_boundBy.2.1 23 = .ok (.ifCond .ne (24), 3)) (by decide) c3) ?_
        exact (R_boundBy_47_run (fun _ _ _ _ _ q1 q3 => ih q1 q3) hL h)
set_option maxRecDepth 100000 in
set_option maxHeartbeats 4000000 in
theorem R_boundBy_run {m m' : Mem} {r : Int32} (hL : RL m) (h : R_boundBy m = some (r, m')) : Run k_R_boundBy 0 [(0, .ref 0)] [] m (some (.int r)) m' ∧ RL m' := by
  unfold R_boundBy at h
  refine ai (r_iconst (pc := 0) (by decide +kernel : decode k_R_boundBy.2.1 0 = .ok (.iconst 0, 1)) ic_0) ?_
  refine ai (e_istore_n (pc := 1) rfl (by decide +kernel : decode k_R_boundBy.2.1 1 = .ok (.istore_n 1, 1)) rfl (by decide) rfl) ?_
  refine ai (r_iconst (pc := 2) (by decide +kernel : decode k_R_boundBy.2.1 2 = .ok (.iconst 0, 1)) ic_0) ?_
  refine ai (e_istore_n (pc := 3) rfl (by decide +kernel : decode k_R_boundBy.2.1 3 = .ok (.istore_n 2, 1)) rfl (by decide) rfl) ?_
  exact (ai (r_sub [2, 1, 0] rfl) (R_boundBy_4_run hL h))
set_option maxRecDepth 100000 in
set_option maxHeartbeats 4000000 in
theorem R_agreeOf_74_run {k4 : Int32 → Int32 → Int32 → Mem → Option (Int32 × Mem)} {x1 : Int32} {x2 : Int32} {x3 : Int32} {m m' : Mem} {r : Int32} (hk4 : ∀ (x1 : Int32) (x2 : Int32) (x3 : Int32) (m : Mem) (r : Int32) (m' : Mem), RL m → k4 x1 x2 x3 m = some (r, m') → Run k_R_agreeOf 4 [(0, .ref 0), (1, .int x1), (2, .int x2), (3, .int x3)] [] m (some (.int r)) m' ∧ RL m') (hL : RL m) (h : R_agreeOf_74 k4 x1 x2 x3 m = some (r, m')) : Run k_R_agreeOf 74 [(0, .ref 0), (1, .int x1), (2, .int x2), (3, .int x3)] [] m (some (.int r)) m' ∧ RL m' := by
  unfold R_agreeOf_74 at h
  obtain ⟨v1, hv1, h⟩ := vb_some h
  refine ai (e_iinc (pc := 74) (k := 3) hv1 ic_1 (by decide +kernel : decode k_R_agreeOf.2.1 74 = .ok (.iinc 3 (1), 3)) rfl (by decide) rfl) ?_
  refine ai (r_goto (pc := 77) (tgt := 4) (by decide +kernel : decode k_R_agreeOf.2.1 77 = .ok (.goto (-73), 3)) (by decide)) ?_
  exact (ai (r_sub [1, 2, 3, 0] rfl) (hk4 x1 x2 v1 m _ _ hL h))
set_option maxRecDepth 100000 in
set_option maxHeartbeats 4000000 in
theorem R_agreeOf_72_run {k4 : Int32 → Int32 → Int32 → Mem → Option (Int32 × Mem)} {x1 : Int32} {x3 : Int32} {m m' : Mem} {r : Int32} (hk4 : ∀ (x1 : Int32) (x2 : Int32) (x3 : Int32) (m : Mem) (r : Int32) (m' : Mem), RL m → k4 x1 x2 x3 m = some (r, m') → Run k_R_agreeOf 4 [(0, .ref 0), (1, .int x1), (2, .int x2), (3, .int x3)] [] m (some (.int r)) m' ∧ RL m') (hL : RL m) (h : R_agreeOf_72 k4 x1 x3 m = some (r, m')) : Run k_R_agreeOf 72 [(0, .ref 0), (1, .int x1), (3, .int x3)] [] m (some (.int r)) m' ∧ RL m' := by
  unfold R_agreeOf_72 at h
  refine ai (r_iload_n (pc := 72) (k := 2) (by decide +kernel : decode k_R_agreeOf.2.1 72 = .ok (.iload_n 3, 1)) rfl rfl) ?_
  refine ai (e_istore_n (pc := 73) rfl (by decide +kernel : decode k_R_agreeOf.2.1 73 = .ok (.istore_n 2, 1)) rfl (by decide) rfl) ?_
  exact (ai (r_sub [1, 2, 0, 3] rfl) (R_agreeOf_74_run hk4 hL h))
set_option maxRecDepth 100000 in
set_option maxHeartbeats 4000000 in
theorem R_agreeOf_4_run {n : Nat} {x1 : Int32} {x2 : Int32} {x3 : Int32} {m m' : Mem} {r : Int32} (hL : RL m) (h : R_agreeOf_4 n x1 x2 x3 m = some (r, m')) : Run k_R_agreeOf 4 [(0, .ref 0), (1, .int x1), (2, .int x2), (3, .int x3)] [] m (some (.int r)) m' ∧ RL m' := by
  induction n generalizing x1 x2 x3 m r m' with
  | zero => exact absurd h (by simp [R_agreeOf_4])
  | succ n ih =>
    rw [R_agreeOf_4.eq_2] at h
    refine ai (r_iload_n (pc := 4) (k := 3) (by decide +kernel : decode k_R_agreeOf.2.1 4 = .ok (.iload_n 3, 1)) rfl rfl) ?_
    refine ai (p_aload_n (pc := 5) (k := 0) (by decide +kernel : decode k_R_agreeOf.2.1 5 = .ok (.aload_n 0, 1)) rfl rfl) ?_
    refine ai (r_getI (pc := 6) (by decide +kernel : decode k_R_agreeOf.2.1 6 = .ok (.getfield 341, 3)) lg_12_341 (by decide) (RC_0 hL).1) ?_
    rcases ite_some h with ⟨c1, h⟩ | ⟨c1, h⟩
    · refine ai (r_icmp_ge_t (pc := 9) (tgt := 80) (by decide +kernel : decode k_R_agreeOf.2.1 9 = .ok (.if_icmp .ge (71), 3)) (by decide) c1) ?_
      refine ai (r_iload_n (pc := 80) (k := 2) (by decide +kernel : decode k_R_agreeOf.2.1 80 = .ok (.iload_n 2, 1)) rfl rfl) ?_
      cases h
      exact ⟨r_iret rfl (by decide +kernel : decode k_R_agreeOf.2.1 81 = .ok (.ireturn, 1)), hL⟩
    · refine ai (r_icmp_ge_f (pc := 9) 80 (by decide +kernel : decode k_R_agreeOf.2.1 9 = .ok (.if_icmp .ge (71), 3)) (by decide) c1) ?_
      refine ai (p_aload_n (pc := 12) (k := 0) (by decide +kernel : decode k_R_agreeOf.2.1 12 = .ok (.aload_n 0, 1)) rfl rfl) ?_
      refine ai (p_getr (pc := 13) (RR_1555_0 hL) (by decide +kernel : decode k_R_agreeOf.2.1 13 = .ok (.getfield 40, 3)) lg_12_40 (RC_0 hL).1) ?_
      refine ai (r_iload_n (pc := 16) (k := 3) (by decide +kernel : decode k_R_agreeOf.2.1 16 = .ok (.iload_n 3, 1)) rfl rfl) ?_
      obtain ⟨g2, h⟩ := gd_some h
      refine ai (p_iald (pc := 17) (by decide +kernel : decode k_R_agreeOf.2.1 17 = .ok (.iaload, 1)) (RC_8 hL).1 (RC_8 hL).2 g2) ?_
      refine ai (r_iconst (pc := 18) (by decide +kernel : decode k_R_agreeOf.2.1 18 = .ok (.iconst 3, 1)) ic_3) ?_
      rcases ite_some h with ⟨c3, h⟩ | ⟨c3, h⟩
      · refine ai (r_icmp_ne_f (pc := 19) 74 (by decide +kernel : decode k_R_agreeOf.2.1 19 = .ok (.if_icmp .ne (55), 3)) (by decide) c3) ?_
        refine ai (p_aload_n (pc := 22) (k := 0) (by decide +kernel : decode k_R_agreeOf.2.1 22 = .ok (.aload_n 0, 1)) rfl rfl) ?_
        refine ai (p_getr (pc := 23) (RR_1560_0 hL) (by decide +kernel : decode k_R_agreeOf.2.1 23 = .ok (.getfield 55, 3)) lg_12_55 (RC_0 hL).1) ?_
        refine ai (r_iload_n (pc := 26) (k := 3) (by decide +kernel : decode k_R_agreeOf.2.1 26 = .ok (.iload_n 3, 1)) rfl rfl) ?_
        obtain ⟨g4, h⟩ := gd_some h
        refine ai (p_iald (pc := 27) (by decide +kernel : decode k_R_agreeOf.2.1 27 = .ok (.iaload, 1)) (RC_13 hL).1 (RC_13 hL).2 g4) ?_
        refine ai (r_iload_n (pc := 28) (k := 1) (by decide +kernel : decode k_R_agreeOf.2.1 28 = .ok (.iload_n 1, 1)) rfl rfl) ?_
        rcases ite_some h with ⟨c5, h⟩ | ⟨c5, h⟩
        · refine ai (r_icmp_ne_f (pc := 29) 74 (by decide +kernel : decode k_R_agreeOf.2.1 29 = .ok (.if_icmp .ne (45), 3)) (by decide) c5) ?_
          refine ai (p_aload_n (pc := 32) (k := 0) (by decide +kernel : decode k_R_agreeOf.2.1 32 = .ok (.aload_n 0, 1)) rfl rfl) ?_
          refine ai (p_getr (pc := 33) (RR_1615_0 hL) (by decide +kernel : decode k_R_agreeOf.2.1 33 = .ok (.getfield 176, 3)) lg_12_176 (RC_0 hL).1) ?_
          refine ai (r_iload_n (pc := 36) (k := 3) (by decide +kernel : decode k_R_agreeOf.2.1 36 = .ok (.iload_n 3, 1)) rfl rfl) ?_
          obtain ⟨g6, h⟩ := gd_some h
          refine ai (p_zald (pc := 37) (by decide +kernel : decode k_R_agreeOf.2.1 37 = .ok (.baload, 1)) (RC_52 hL).1 (RC_52 hL).2 g6) ?_
          rcases ite_some h with ⟨c7, h⟩ | ⟨c7, h⟩
          · refine ai (r_if_eq_t (pc := 38) (tgt := 74) (by decide +kernel : decode k_R_agreeOf.2.1 38 = .ok (.ifCond .eq (36), 3)) (by decide) c7) ?_
            exact (R_agreeOf_74_run (fun _ _ _ _ _ _ q1 q3 => ih q1 q3) hL h)
          · refine ai (r_if_eq_f (pc := 38) 74 (by decide +kernel : decode k_R_agreeOf.2.1 38 = .ok (.ifCond .eq (36), 3)) (by decide) c7) ?_
            refine ai (p_aload_n (pc := 41) (k := 0) (by decide +kernel : decode k_R_agreeOf.2.1 41 = .ok (.aload_n 0, 1)) rfl rfl) ?_
            refine ai (r_iload_n (pc := 42) (k := 3) (by decide +kernel : decode k_R_agreeOf.2.1 42 = .ok (.iload_n 3, 1)) rfl rfl) ?_
            obtain ⟨r8, m9, hr8, h⟩ := bn_some h
            have q10 := R_isBinding_run hL hr8
            have c11 := (RC_0 hL).1
            have hL := q10.2
            refine ai (q_callV (pc := 43) (As := [.int x3]) (st := []) (st2 := [.int r8]) (b := 0) rfl rfl (by decide +kernel : decode k_R_agreeOf.2.1 43 = .ok (.invokevirtual 549, 3)) lc_12_549 mo_R_isBinding ⟨Nat.le_of_ble_eq_true rfl, Nat.le_of_ble_eq_true rfl⟩ (Nat.le_of_ble_eq_true rfl) (Nat.le_of_ble_eq_true rfl) c11 q10.1) ?_
            rcases ite_some h with ⟨c12, h⟩ | ⟨c12, h⟩
            · refine ai (r_if_ne_f (pc := 46) 52 (by decide +kernel : decode k_R_agreeOf.2.1 46 = .ok (.ifCond .ne (6), 3)) (by decide) c12) ?_
              refine ai (r_goto (pc := 49) (tgt := 74) (by decide +kernel : decode k_R_agreeOf.2.1 49 = .ok (.goto (25), 3)) (by decide)) ?_
              exact (R_agreeOf_74_run (fun _ _ _ _ _ _ q1 q3 => ih q1 q3) hL h)
            · refine ai (r_if_ne_t (pc := 46) (tgt := 52) (by decide +kernel : decode k_R_agreeOf.2.1 46 = .ok (.ifCond .ne (6), 3)) (by decide) c12) ?_
              refine ai (r_iload_n (pc := 52) (k := 2) (by decide +kernel : decode k_R_agreeOf.2.1 52 = .ok (.iload_n 2, 1)) rfl rfl) ?_
              refine ai (r_iconst (pc := 53) (by decide +kernel : decode k_R_agreeOf.2.1 53 = .ok (.iconst (-1), 1)) ic_m1) ?_
              rcases ite_some h with ⟨c13, h⟩ | ⟨c13, h⟩
              · refine ai (r_icmp_eq_t (pc := 54) (tgt := 72) (by decide +kernel : decode k_R_agreeOf.2.1 54 = .ok (.if_icmp .eq (18), 3)) (by decide) c13) ?_
                exact (ai (r_sub [0, 1, 3] rfl) (R_agreeOf_72_run (fun _ _ _ _ _ _ q1 q3 => ih q1 q3) hL h))
              · refine ai (r_icmp_eq_f (pc := 54) 72 (by decide +kernel : decode k_R_agreeOf.2.1 54 = .ok (.if_icmp .eq (18), 3)) (by decide) c13) ?_
                refine ai (p_aload_n (pc := 57) (k := 0) (by decide +kernel : decode k_R_agreeOf.2.1 57 = .ok (.aload_n 0, 1)) rfl rfl) ?_
                refine ai (p_getr (pc := 58) (RR_1558_0 hL) (by decide +kernel : decode k_R_agreeOf.2.1 58 = .ok (.getfield 49, 3)) lg_12_49 (RC_0 hL).1) ?_
                refine ai (r_iload_n (pc := 61) (k := 3) (by decide +kernel : decode k_R_agreeOf.2.1 61 = .ok (.iload_n 3, 1)) rfl rfl) ?_
                obtain ⟨g14, h⟩ := gd_some h
                refine ai (p_iald (pc := 62) (by decide +kernel : decode k_R_agreeOf.2.1 62 = .ok (.iaload, 1)) (RC_11 hL).1 (RC_11 hL).2 g14) ?_
                refine ai (p_aload_n (pc := 63) (k := 0) (by decide +kernel : decode k_R_agreeOf.2.1 63 = .ok (.aload_n 0, 1)) rfl rfl) ?_
                refine ai (p_getr (pc := 64) (RR_1558_0 hL) (by decide +kernel : decode k_R_agreeOf.2.1 64 = .ok (.getfield 49, 3)) lg_12_49 (RC_0 hL).1) ?_
                refine ai (r_iload_n (pc := 67) (k := 2) (by decide +kernel : decode k_R_agreeOf.2.1 67 = .ok (.iload_n 2, 1)) rfl rfl) ?_
                obtain ⟨g15, h⟩ := gd_some h
                refine ai (p_iald (pc := 68) (by decide +kernel : decode k_R_agreeOf.2.1 68 = .ok (.iaload, 1)) (RC_11 hL).1 (RC_11 hL).2 g15) ?_
                rcases ite_some h with ⟨c16, h⟩ | ⟨c16, h⟩
                · refine ai (r_icmp_lt_t (pc := 69) (tgt := 74) (by decide +kernel : decode k_R_agreeOf.2.1 69 = .ok (.if_icmp .lt (5), 3)) (by decide) c16) ?_
                  exact (R_agreeOf_74_run (fun _ _ _ _ _ _ q1 q3 => ih q1 q3) hL h)
                · refine ai (r_icmp_lt_f (pc := 69) 74 (by decide +kernel : decode k_R_agreeOf.2.1 69 = .ok (.if_icmp .lt (5), 3)) (by decide) c16) ?_
                  exact (ai (r_sub [0, 1, 3] rfl) (R_agreeOf_72_run (fun _ _ _ _ _ _ q1 q3 => ih q1 q3) hL h))
        · refine ai (r_icmp_ne_t (pc := 29) (tgt := 74) (by decide +kernel : decode k_R_agreeOf.2.1 29 = .ok (.if_icmp .ne (45), 3)) (by decide) c5) ?_
          exact (R_agreeOf_74_run (fun _ _ _ _ _ _ q1 q3 => ih q1 q3) hL h)
      · refine ai (r_icmp_ne_t (pc := 19) (tgt := 74) (by decide +kernel : decode k_R_agreeOf.2.1 19 = .ok (.if_icmp .ne (55), 3)) (by decide) c3) ?_
        exact (R_agreeOf_74_run (fun _ _ _ _ _ _ q1 q3 => ih q1 q3) hL h)
set_option maxRecDepth 100000 in
set_option maxHeartbeats 4000000 in
theorem R_agreeOf_run {x1 : Int32} {m m' : Mem} {r : Int32} (hL : RL m) (h : R_agreeOf x1 m = some (r, m')) : Run k_R_agreeOf 0 [(0, .ref 0), (1, .int x1)] [] m (some (.int r)) m' ∧ RL m' := by
  unfold R_agreeOf at h
  refine ai (r_iconst (pc := 0) (by decide +kernel : decode k_R_agreeOf.2.1 0 = .ok (.iconst (-1), 1)) ic_m1) ?_
  refine ai (e_istore_n (pc := 1) rfl (by decide +kernel : decode k_R_agreeOf.2.1 1 = .ok (.istore_n 2, 1)) rfl (by decide) rfl) ?_
  refine ai (r_iconst (pc := 2) (by decide +kernel : decode k_R_agreeOf.2.1 2 = .ok (.iconst 0, 1)) ic_0) ?_
  refine ai (e_istore_n (pc := 3) rfl (by decide +kernel : decode k_R_agreeOf.2.1 3 = .ok (.istore_n 3, 1)) rfl (by decide) rfl) ?_
  exact (ai (r_sub [2, 3, 1, 0] rfl) (R_agreeOf_4_run hL h))
set_option maxRecDepth 100000 in
set_option maxHeartbeats 4000000 in
theorem R_eachOf_56_run {k5 : Int32 → Int32 → Int32 → Mem → Option (Int32 × Mem)} {x1 : Int32} {x2 : Int32} {x3 : Int32} {m m' : Mem} {r : Int32} (hk5 : ∀ (x1 : Int32) (x2 : Int32) (x3 : Int32) (m : Mem) (r : Int32) (m' : Mem), RL m → k5 x1 x2 x3 m = some (r, m') → Run k_R_eachOf 5 [(0, .ref 0), (1, .int x1), (2, .int x2), (3, .int x3)] [] m (some (.int r)) m' ∧ RL m') (hL : RL m) (h : R_eachOf_56 k5 x1 x2 x3 m = some (r, m')) : Run k_R_eachOf 56 [(0, .ref 0), (1, .int x1), (2, .int x2), (3, .int x3)] [] m (some (.int r)) m' ∧ RL m' := by
  unfold R_eachOf_56 at h
  obtain ⟨v1, hv1, h⟩ := vb_some h
  refine ai (e_iinc (pc := 56) (k := 3) hv1 ic_1 (by decide +kernel : decode k_R_eachOf.2.1 56 = .ok (.iinc 3 (1), 3)) rfl (by decide) rfl) ?_
  refine ai (r_goto (pc := 59) (tgt := 5) (by decide +kernel : decode k_R_eachOf.2.1 59 = .ok (.goto (-54), 3)) (by decide)) ?_
  exact (ai (r_sub [1, 2, 3, 0] rfl) (hk5 x1 x2 v1 m _ _ hL h))
set_option maxRecDepth 100000 in
set_option maxHeartbeats 4000000 in
theorem R_eachOf_5_run {n : Nat} {x1 : Int32} {x2 : Int32} {x3 : Int32} {m m' : Mem} {r : Int32} (hL : RL m) (h : R_eachOf_5 n x1 x2 x3 m = some (r, m')) : Run k_R_eachOf 5 [(0, .ref 0), (1, .int x1), (2, .int x2), (3, .int x3)] [] m (some (.int r)) m' ∧ RL m' := by
  induction n generalizing x1 x2 x3 m r m' with
  | zero => exact absurd h (by simp [R_eachOf_5])
  | succ n ih =>
    rw [R_eachOf_5.eq_2] at h
    refine ai (r_iload_n (pc := 5) (k := 3) (by decide +kernel : decode k_R_eachOf.2.1 5 = .ok (.iload_n 3, 1)) rfl rfl) ?_
    refine ai (r_bipush (pc := 6) (by decide +kernel : decode k_R_eachOf.2.1 6 = .ok (.bipush (64), 2)) (by decide : _ = (64 : Int32))) ?_
    refine ai (r_iload_n (pc := 8) (k := 1) (by decide +kernel : decode k_R_eachOf.2.1 8 = .ok (.iload_n 1, 1)) rfl rfl) ?_
    refine ai (r_imul (pc := 9) (by decide +kernel : decode k_R_eachOf.2.1 9 = .ok (.imul, 1))) ?_
    refine ai (p_aload_n (pc := 10) (k := 0) (by decide +kernel : decode k_R_eachOf.2.1 10 = .ok (.aload_n 0, 1)) rfl rfl) ?_
    refine ai (p_getr (pc := 11) (RR_1616_0 hL) (by decide +kernel : decode k_R_eachOf.2.1 11 = .ok (.getfield 179, 3)) lg_12_179 (RC_0 hL).1) ?_
    refine ai (r_iload_n (pc := 14) (k := 1) (by decide +kernel : decode k_R_eachOf.2.1 14 = .ok (.iload_n 1, 1)) rfl rfl) ?_
    obtain ⟨g1, h⟩ := gd_some h
    refine ai (p_iald (pc := 15) (by decide +kernel : decode k_R_eachOf.2.1 15 = .ok (.iaload, 1)) (RC_53 hL).1 (RC_53 hL).2 g1) ?_
    refine ai (r_iadd (pc := 16) (by decide +kernel : decode k_R_eachOf.2.1 16 = .ok (.iadd, 1))) ?_
    rcases ite_some h with ⟨c2, h⟩ | ⟨c2, h⟩
    · refine ai (r_icmp_ge_t (pc := 17) (tgt := 62) (by decide +kernel : decode k_R_eachOf.2.1 17 = .ok (.if_icmp .ge (45), 3)) (by decide) c2) ?_
      refine ai (r_iconst (pc := 62) (by decide +kernel : decode k_R_eachOf.2.1 62 = .ok (.iconst (-1), 1)) ic_m1) ?_
      cases h
      exact ⟨r_iret rfl (by decide +kernel : decode k_R_eachOf.2.1 63 = .ok (.ireturn, 1)), hL⟩
    · refine ai (r_icmp_ge_f (pc := 17) 62 (by decide +kernel : decode k_R_eachOf.2.1 17 = .ok (.if_icmp .ge (45), 3)) (by decide) c2) ?_
      refine ai (p_aload_n (pc := 20) (k := 0) (by decide +kernel : decode k_R_eachOf.2.1 20 = .ok (.aload_n 0, 1)) rfl rfl) ?_
      refine ai (p_getr (pc := 21) (RR_1562_0 hL) (by decide +kernel : decode k_R_eachOf.2.1 21 = .ok (.getfield 61, 3)) lg_12_61 (RC_0 hL).1) ?_
      refine ai (p_aload_n (pc := 24) (k := 0) (by decide +kernel : decode k_R_eachOf.2.1 24 = .ok (.aload_n 0, 1)) rfl rfl) ?_
      refine ai (p_getr (pc := 25) (RR_1617_0 hL) (by decide +kernel : decode k_R_eachOf.2.1 25 = .ok (.getfield 182, 3)) lg_12_182 (RC_0 hL).1) ?_
      refine ai (r_iload_n (pc := 28) (k := 3) (by decide +kernel : decode k_R_eachOf.2.1 28 = .ok (.iload_n 3, 1)) rfl rfl) ?_
      obtain ⟨g3, h⟩ := gd_some h
      refine ai (p_iald (pc := 29) (by decide +kernel : decode k_R_eachOf.2.1 29 = .ok (.iaload, 1)) (RC_54 hL).1 (RC_54 hL).2 g3) ?_
      obtain ⟨g4, h⟩ := gd_some h
      refine ai (p_iald (pc := 30) (by decide +kernel : decode k_R_eachOf.2.1 30 = .ok (.iaload, 1)) (RC_15 hL).1 (RC_15 hL).2 g4) ?_
      refine ai (r_iconst (pc := 31) (by decide +kernel : decode k_R_eachOf.2.1 31 = .ok (.iconst 2, 1)) ic_2) ?_
      rcases ite_some h with ⟨c5, h⟩ | ⟨c5, h⟩
      · refine ai (r_icmp_ne_f (pc := 32) 56 (by decide +kernel : decode k_R_eachOf.2.1 32 = .ok (.if_icmp .ne (24), 3)) (by decide) c5) ?_
        refine ai (p_aload_n (pc := 35) (k := 0) (by decide +kernel : decode k_R_eachOf.2.1 35 = .ok (.aload_n 0, 1)) rfl rfl) ?_
        refine ai (p_getr (pc := 36) (RR_1564_0 hL) (by decide +kernel : decode k_R_eachOf.2.1 36 = .ok (.getfield 67, 3)) lg_12_67 (RC_0 hL).1) ?_
        refine ai (p_aload_n (pc := 39) (k := 0) (by decide +kernel : decode k_R_eachOf.2.1 39 = .ok (.aload_n 0, 1)) rfl rfl) ?_
        refine ai (p_getr (pc := 40) (RR_1617_0 hL) (by decide +kernel : decode k_R_eachOf.2.1 40 = .ok (.getfield 182, 3)) lg_12_182 (RC_0 hL).1) ?_
        refine ai (r_iload_n (pc := 43) (k := 3) (by decide +kernel : decode k_R_eachOf.2.1 43 = .ok (.iload_n 3, 1)) rfl rfl) ?_
        obtain ⟨g6, h⟩ := gd_some h
        refine ai (p_iald (pc := 44) (by decide +kernel : decode k_R_eachOf.2.1 44 = .ok (.iaload, 1)) (RC_54 hL).1 (RC_54 hL).2 g6) ?_
        obtain ⟨g7, h⟩ := gd_some h
        refine ai (p_iald (pc := 45) (by decide +kernel : decode k_R_eachOf.2.1 45 = .ok (.iaload, 1)) (RC_17 hL).1 (RC_17 hL).2 g7) ?_
        refine ai (r_iload_n (pc := 46) (k := 2) (by decide +kernel : decode k_R_eachOf.2.1 46 = .ok (.iload_n 2, 1)) rfl rfl) ?_
        refine ai (r_ishr (pc := 47) (by decide +kernel : decode k_R_eachOf.2.1 47 = .ok (.ishr, 1))) ?_
        refine ai (r_iconst (pc := 48) (by decide +kernel : decode k_R_eachOf.2.1 48 = .ok (.iconst 1, 1)) ic_1) ?_
        refine ai (r_iand (pc := 49) (by decide +kernel : decode k_R_eachOf.2.1 49 = .ok (.iand, 1))) ?_
        refine ai (r_iconst (pc := 50) (by decide +kernel : decode k_R_eachOf.2.1 50 = .ok (.iconst 1, 1)) ic_1) ?_
        rcases ite_some h with ⟨c8, h⟩ | ⟨c8, h⟩
        · refine ai (r_icmp_ne_f (pc := 51) 56 (by decide +kernel : decode k_R_eachOf.2.1 51 = .ok (.if_icmp .ne (5), 3)) (by decide) c8) ?_
          refine ai (r_iload_n (pc := 54) (k := 3) (by decide +kernel : decode k_R_eachOf.2.1 54 = .ok (.iload_n 3, 1)) rfl rfl) ?_
          cases h
          exact ⟨r_iret rfl (by decide +kernel : decode k_R_eachOf.2.1 55 = .ok (.ireturn, 1)), hL⟩
        · refine ai (r_icmp_ne_t (pc := 51) (tgt := 56) (by decide +kernel : decode k_R_eachOf.2.1 51 = .ok (.if_icmp .ne (5), 3)) (by decide) c8) ?_
          exact (R_eachOf_56_run (fun _ _ _ _ _ _ q1 q3 => ih q1 q3) hL h)
      · refine ai (r_icmp_ne_t (pc := 32) (tgt := 56) (by decide +kernel : decode k_R_eachOf.2.1 32 = .ok (.if_icmp .ne (24), 3)) (by decide) c5) ?_
        exact (R_eachOf_56_run (fun _ _ _ _ _ _ q1 q3 => ih q1 q3) hL h)
set_option maxRecDepth 100000 in
set_option maxHeartbeats 4000000 in
theorem R_eachOf_run {x1 : Int32} {x2 : Int32} {m m' : Mem} {r : Int32} (hL : RL m) (h : R_eachOf x1 x2 m = some (r, m')) : Run k_R_eachOf 0 [(0, .ref 0), (1, .int x1), (2, .int x2)] [] m (some (.int r)) m' ∧ RL m' := by
  unfold R_eachOf at h
  refine ai (r_bipush (pc := 0) (by decide +kernel : decode k_R_eachOf.2.1 0 = .ok (.bipush (64), 2)) (by decide : _ = (64 : Int32))) ?_
  refine ai (r_iload_n (pc := 2) (k := 1) (by decide +kernel : decode k_R_eachOf.2.1 2 = .ok (.iload_n 1, 1)) rfl rfl) ?_
  refine ai (r_imul (pc := 3) (by decide +kernel : decode k_R_eachOf.2.1 3 = .ok (.imul, 1))) ?_
  obtain ⟨v1, hv1, h⟩ := vb_some h
  refine ai (e_istore_n (pc := 4) hv1 (by decide +kernel : decode k_R_eachOf.2.1 4 = .ok (.istore_n 3, 1)) rfl (by decide) rfl) ?_
  exact (ai (r_sub [1, 2, 3, 0] rfl) (R_eachOf_5_run hL h))
