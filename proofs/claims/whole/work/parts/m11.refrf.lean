/-! written by gen/emit.py -/
set_option maxRecDepth 100000 in
set_option maxHeartbeats 4000000 in
theorem R_classes_133_run {k42 : Int32 → Int32 → Int32 → Int32 → Int32 → Mem → Option (Unit × Mem)} {x1 : Int32} {x2 : Int32} {x3 : Int32} {x4 : Int32} {x5 : Int32} {m m' : Mem} {r : Unit} (hk42 : ∀ (x1 : Int32) (x2 : Int32) (x3 : Int32) (x4 : Int32) (x5 : Int32) (m : Mem) (r : Unit) (m' : Mem), RL m → k42 x1 x2 x3 x4 x5 m = some (r, m') → Run k_R_classes 42 [(0, .ref 0), (1, .int x1), (2, .int x2), (3, .int x3), (4, .int x4), (5, .int x5)] [] m none m' ∧ RL m') (hL : RL m) (h : R_classes_133 k42 x1 x2 x3 x4 x5 m = some (r, m')) : Run k_R_classes 133 [(0, .ref 0), (1, .int x1), (2, .int x2), (3, .int x3), (4, .int x4), (5, .int x5)] [] m none m' ∧ RL m' := by
  unfold R_classes_133 at h
  obtain ⟨v1, hv1, h⟩ := vb_some h
  refine ai (e_iinc (pc := 133) (k := 5) hv1 ic_1 (by decide +kernel : decode k_R_classes.2.1 133 = .ok (.iinc 5 (1), 3)) rfl (by decide) rfl) ?_
  refine ai (r_goto (pc := 136) (tgt := 42) (by decide +kernel : decode k_R_classes.2.1 136 = .ok (.goto (-94), 3)) (by decide)) ?_
  exact (ai (r_sub [1, 2, 3, 4, 5, 0] rfl) (hk42 x1 x2 x3 x4 v1 m _ _ hL h))
set_option maxRecDepth 100000 in
set_option maxHeartbeats 4000000 in
theorem R_classes_116_run {k42 : Int32 → Int32 → Int32 → Int32 → Int32 → Mem → Option (Unit × Mem)} {x1 : Int32} {x2 : Int32} {x3 : Int32} {x4 : Int32} {x5 : Int32} {x6 : Int32} {m m' : Mem} {r : Unit} (hk42 : ∀ (x1 : Int32) (x2 : Int32) (x3 : Int32) (x4 : Int32) (x5 : Int32) (m : Mem) (r : Unit) (m' : Mem), RL m → k42 x1 x2 x3 x4 x5 m = some (r, m') → Run k_R_classes 42 [(0, .ref 0), (1, .int x1), (2, .int x2), (3, .int x3), (4, .int x4), (5, .int x5)] [] m none m' ∧ RL m') (hL : RL m) (h : R_classes_116 k42 x1 x2 x3 x4 x5 x6 m = some (r, m')) : Run k_R_classes 116 [(0, .ref 0), (1, .int x1), (2, .int x2), (3, .int x3), (4, .int x4), (5, .int x5), (6, .int x6)] [] m none m' ∧ RL m' := by
  unfold R_classes_116 at h
  refine ai (r_iload (pc := 116) (k := 6) (by decide +kernel : decode k_R_classes.2.1 116 = .ok (.iload 6, 2)) rfl) ?_
  refine ai (r_iconst (pc := 118) (by decide +kernel : decode k_R_classes.2.1 118 = .ok (.iconst (-1), 1)) ic_m1) ?_
  rcases ite_some h with ⟨c1, h⟩ | ⟨c1, h⟩
  · refine ai (r_icmp_eq_t (pc := 119) (tgt := 133) (by decide +kernel : decode k_R_classes.2.1 119 = .ok (.if_icmp .eq (14), 3)) (by decide) c1) ?_
    exact (ai (r_sub [0, 1, 2, 3, 4, 5] rfl) (R_classes_133_run hk42 hL h))
  · refine ai (r_icmp_eq_f (pc := 119) 133 (by decide +kernel : decode k_R_classes.2.1 119 = .ok (.if_icmp .eq (14), 3)) (by decide) c1) ?_
    refine ai (p_aload_n (pc := 122) (k := 0) (by decide +kernel : decode k_R_classes.2.1 122 = .ok (.aload_n 0, 1)) rfl rfl) ?_
    refine ai (p_getr (pc := 123) (RR_1641_0 hL) (by decide +kernel : decode k_R_classes.2.1 123 = .ok (.getfield 233, 3)) lg_12_233 (RC_0 hL).1) ?_
    refine ai (r_iload (pc := 126) (k := 6) (by decide +kernel : decode k_R_classes.2.1 126 = .ok (.iload 6, 2)) rfl) ?_
    refine ai (r_dup2 (pc := 128) (by decide +kernel : decode k_R_classes.2.1 128 = .ok (.dup2, 1)) rfl rfl) ?_
    obtain ⟨g2, h⟩ := gd_some h
    refine ai (p_iald (pc := 129) (by decide +kernel : decode k_R_classes.2.1 129 = .ok (.iaload, 1)) (RC_69 hL).1 (RC_69 hL).2 g2) ?_
    refine ai (r_iconst (pc := 130) (by decide +kernel : decode k_R_classes.2.1 130 = .ok (.iconst 1, 1)) ic_1) ?_
    refine ai (r_iadd (pc := 131) (by decide +kernel : decode k_R_classes.2.1 131 = .ok (.iadd, 1))) ?_
    obtain ⟨g3, h⟩ := gd_some h
    have c4 := (RC_69 hL).1
    have c5 := (RC_69 hL).2
    obtain ⟨m6, hm6, h⟩ := vb_some h
    have hL : RL m6 := by rw [hm6]; exact hL
    refine ai (p_iast (pc := 132) hm6 (by decide +kernel : decode k_R_classes.2.1 132 = .ok (.iastore, 1)) c4 c5 g3) ?_
    exact (ai (r_sub [0, 1, 2, 3, 4, 5] rfl) (R_classes_133_run hk42 hL h))
set_option maxRecDepth 100000 in
set_option maxHeartbeats 4000000 in
theorem R_classes_70_run {k42 : Int32 → Int32 → Int32 → Int32 → Int32 → Mem → Option (Unit × Mem)} {x1 : Int32} {x2 : Int32} {x3 : Int32} {x4 : Int32} {x5 : Int32} {s0 : Int32} {m m' : Mem} {r : Unit} (hk42 : ∀ (x1 : Int32) (x2 : Int32) (x3 : Int32) (x4 : Int32) (x5 : Int32) (m : Mem) (r : Unit) (m' : Mem), RL m → k42 x1 x2 x3 x4 x5 m = some (r, m') → Run k_R_classes 42 [(0, .ref 0), (1, .int x1), (2, .int x2), (3, .int x3), (4, .int x4), (5, .int x5)] [] m none m' ∧ RL m') (hL : RL m) (h : R_classes_70 k42 x1 x2 x3 x4 x5 s0 m = some (r, m')) : Run k_R_classes 70 [(0, .ref 0), (1, .int x1), (2, .int x2), (3, .int x3), (4, .int x4), (5, .int x5)] [.int s0] m none m' ∧ RL m' := by
  unfold R_classes_70 at h
  refine ai (r_iload_n (pc := 70) (k := 1) (by decide +kernel : decode k_R_classes.2.1 70 = .ok (.iload_n 1, 1)) rfl rfl) ?_
  rcases ite_some h with ⟨c1, h⟩ | ⟨c1, h⟩
  · refine ai (r_icmp_eq_t (pc := 71) (tgt := 77) (by decide +kernel : decode k_R_classes.2.1 71 = .ok (.if_icmp .eq (6), 3)) (by decide) c1) ?_
    refine ai (p_aload_n (pc := 77) (k := 0) (by decide +kernel : decode k_R_classes.2.1 77 = .ok (.aload_n 0, 1)) rfl rfl) ?_
    refine ai (r_iload_n (pc := 78) (k := 1) (by decide +kernel : decode k_R_classes.2.1 78 = .ok (.iload_n 1, 1)) rfl rfl) ?_
    refine ai (p_aload_n (pc := 79) (k := 0) (by decide +kernel : decode k_R_classes.2.1 79 = .ok (.aload_n 0, 1)) rfl rfl) ?_
    refine ai (p_getr (pc := 80) (RR_1630_0 hL) (by decide +kernel : decode k_R_classes.2.1 80 = .ok (.getfield 206, 3)) lg_12_206 (RC_0 hL).1) ?_
    refine ai (r_iload (pc := 83) (k := 5) (by decide +kernel : decode k_R_classes.2.1 83 = .ok (.iload 5, 2)) rfl) ?_
    obtain ⟨g2, h⟩ := gd_some h
    refine ai (p_iald (pc := 85) (by decide +kernel : decode k_R_classes.2.1 85 = .ok (.iaload, 1)) (RC_60 hL).1 (RC_60 hL).2 g2) ?_
    obtain ⟨r3, m4, hr3, h⟩ := bn_some h
    have q5 := R_eachOf_run hL hr3
    have c6 := (RC_0 hL).1
    have hL := q5.2
    refine ai (q_callV (pc := 86) (As := [.int x1, .int (aI m 60 (ix x5))]) (st := []) (st2 := [.int r3]) (b := 0) rfl rfl (by decide +kernel : decode k_R_classes.2.1 86 = .ok (.invokevirtual 555, 3)) lc_12_555 mo_R_eachOf ⟨Nat.le_of_ble_eq_true rfl, Nat.le_of_ble_eq_true rfl⟩ (Nat.le_of_ble_eq_true rfl) (Nat.le_of_ble_eq_true rfl) c6 q5.1) ?_
    refine ai (e_istore (pc := 89) rfl (by decide +kernel : decode k_R_classes.2.1 89 = .ok (.istore 6, 2)) (by decide) rfl) ?_
    refine ai (r_iload_n (pc := 91) (k := 3) (by decide +kernel : decode k_R_classes.2.1 91 = .ok (.iload_n 2, 1)) rfl rfl) ?_
    rcases ite_some h with ⟨c7, h⟩ | ⟨c7, h⟩
    · refine ai (r_if_eq_t (pc := 92) (tgt := 107) (by decide +kernel : decode k_R_classes.2.1 92 = .ok (.ifCond .eq (15), 3)) (by decide) c7) ?_
      refine ai (p_aload_n (pc := 107) (k := 1) (by decide +kernel : decode k_R_classes.2.1 107 = .ok (.aload_n 0, 1)) rfl rfl) ?_
      refine ai (p_getr (pc := 108) (RR_1633_0 hL) (by decide +kernel : decode k_R_classes.2.1 108 = .ok (.getfield 215, 3)) lg_12_215 (RC_0 hL).1) ?_
      refine ai (r_iload (pc := 111) (k := 6) (by decide +kernel : decode k_R_classes.2.1 111 = .ok (.iload 5, 2)) rfl) ?_
      refine ai (r_iload (pc := 113) (k := 0) (by decide +kernel : decode k_R_classes.2.1 113 = .ok (.iload 6, 2)) rfl) ?_
      obtain ⟨g8, h⟩ := gd_some h
      have c9 := (RC_63 hL).1
      have c10 := (RC_63 hL).2
      obtain ⟨m11, hm11, h⟩ := vb_some h
      have hL : RL m11 := by rw [hm11]; exact hL
      refine ai (p_iast (pc := 115) hm11 (by decide +kernel : decode k_R_classes.2.1 115 = .ok (.iastore, 1)) c9 c10 g8) ?_
      exact (ai (r_sub [1, 2, 3, 4, 5, 6, 0] rfl) (R_classes_116_run hk42 hL h))
    · refine ai (r_if_eq_f (pc := 92) 107 (by decide +kernel : decode k_R_classes.2.1 92 = .ok (.ifCond .eq (15), 3)) (by decide) c7) ?_
      refine ai (p_aload_n (pc := 95) (k := 1) (by decide +kernel : decode k_R_classes.2.1 95 = .ok (.aload_n 0, 1)) rfl rfl) ?_
      refine ai (p_getr (pc := 96) (RR_1635_0 hL) (by decide +kernel : decode k_R_classes.2.1 96 = .ok (.getfield 221, 3)) lg_12_221 (RC_0 hL).1) ?_
      refine ai (r_iload (pc := 99) (k := 6) (by decide +kernel : decode k_R_classes.2.1 99 = .ok (.iload 5, 2)) rfl) ?_
      refine ai (r_iload (pc := 101) (k := 0) (by decide +kernel : decode k_R_classes.2.1 101 = .ok (.iload 6, 2)) rfl) ?_
      obtain ⟨g12, h⟩ := gd_some h
      have c13 := (RC_65 hL).1
      have c14 := (RC_65 hL).2
      obtain ⟨m15, hm15, h⟩ := vb_some h
      have hL : RL m15 := by rw [hm15]; exact hL
      refine ai (p_iast (pc := 103) hm15 (by decide +kernel : decode k_R_classes.2.1 103 = .ok (.iastore, 1)) c13 c14 g12) ?_
      refine ai (r_goto (pc := 104) (tgt := 116) (by decide +kernel : decode k_R_classes.2.1 104 = .ok (.goto (12), 3)) (by decide)) ?_
      exact (ai (r_sub [1, 2, 3, 4, 5, 6, 0] rfl) (R_classes_116_run hk42 hL h))
  · refine ai (r_icmp_eq_f (pc := 71) 77 (by decide +kernel : decode k_R_classes.2.1 71 = .ok (.if_icmp .eq (6), 3)) (by decide) c1) ?_
    refine ai (r_goto (pc := 74) (tgt := 133) (by decide +kernel : decode k_R_classes.2.1 74 = .ok (.goto (59), 3)) (by decide)) ?_
    exact (R_classes_133_run hk42 hL h)
set_option maxRecDepth 100000 in
set_option maxHeartbeats 4000000 in
theorem R_classes_286_run {k158 : Int32 → Int32 → Int32 → Int32 → Int32 → Int32 → Mem → Option (Unit × Mem)} {x1 : Int32} {x2 : Int32} {x3 : Int32} {x4 : Int32} {x5 : Int32} {x6 : Int32} {m m' : Mem} {r : Unit} (hk158 : ∀ (x1 : Int32) (x2 : Int32) (x3 : Int32) (x4 : Int32) (x5 : Int32) (x6 : Int32) (m : Mem) (r : Unit) (m' : Mem), RL m → k158 x1 x2 x3 x4 x5 x6 m = some (r, m') → Run k_R_classes 158 [(0, .ref 0), (1, .int x1), (2, .int x2), (3, .int x3), (4, .int x4), (5, .int x5), (6, .int x6)] [] m none m' ∧ RL m') (hL : RL m) (h : R_classes_286 k158 x1 x2 x3 x4 x5 x6 m = some (r, m')) : Run k_R_classes 286 [(0, .ref 0), (1, .int x1), (2, .int x2), (3, .int x3), (4, .int x4), (5, .int x5), (6, .int x6)] [] m none m' ∧ RL m' := by
  unfold R_classes_286 at h
  obtain ⟨v1, hv1, h⟩ := vb_some h
  refine ai (e_iinc (pc := 286) (k := 6) hv1 ic_1 (by decide +kernel : decode k_R_classes.2.1 286 = .ok (.iinc 6 (1), 3)) rfl (by decide) rfl) ?_
  refine ai (r_goto (pc := 289) (tgt := 158) (by decide +kernel : decode k_R_classes.2.1 289 = .ok (.goto (-131), 3)) (by decide)) ?_
  exact (ai (r_sub [1, 2, 3, 4, 5, 6, 0] rfl) (hk158 x1 x2 x3 x4 x5 v1 m _ _ hL h))
set_option maxRecDepth 100000 in
set_option maxHeartbeats 4000000 in
theorem R_classes_268_run {k158 : Int32 → Int32 → Int32 → Int32 → Int32 → Int32 → Mem → Option (Unit × Mem)} {x1 : Int32} {x2 : Int32} {x3 : Int32} {x4 : Int32} {x5 : Int32} {x6 : Int32} {x7 : Int32} {s0 : Int32} {m m' : Mem} {r : Unit} (hk158 : ∀ (x1 : Int32) (x2 : Int32) (x3 : Int32) (x4 : Int32) (x5 : Int32) (x6 : Int32) (m : Mem) (r : Unit) (m' : Mem), RL m → k158 x1 x2 x3 x4 x5 x6 m = some (r, m') → Run k_R_classes 158 [(0, .ref 0), (1, .int x1), (2, .int x2), (3, .int x3), (4, .int x4), (5, .int x5), (6, .int x6)] [] m none m' ∧ RL m') (hL : RL m) (h : R_classes_268 k158 x1 x2 x3 x4 x5 x6 x7 s0 m = some (r, m')) : Run k_R_classes 268 [(0, .ref 0), (1, .int x1), (2, .int x2), (3, .int x3), (4, .int x4), (5, .int x5), (6, .int x6), (7, .int x7)] [.int s0] m none m' ∧ RL m' := by
  unfold R_classes_268 at h
  refine ai (e_istore (pc := 268) rfl (by decide +kernel : decode k_R_classes.2.1 268 = .ok (.istore 8, 2)) (by decide) rfl) ?_
  refine ai (r_iload (pc := 270) (k := 0) (by decide +kernel : decode k_R_classes.2.1 270 = .ok (.iload 8, 2)) rfl) ?_
  rcases ite_some h with ⟨c1, h⟩ | ⟨c1, h⟩
  · refine ai (r_if_ne_f (pc := 272) 278 (by decide +kernel : decode k_R_classes.2.1 272 = .ok (.ifCond .ne (6), 3)) (by decide) c1) ?_
    refine ai (r_goto (pc := 275) (tgt := 286) (by decide +kernel : decode k_R_classes.2.1 275 = .ok (.goto (11), 3)) (by decide)) ?_
    exact (ai (r_sub [1, 2, 3, 4, 5, 6, 7] rfl) (R_classes_286_run hk158 hL h))
  · refine ai (r_if_ne_t (pc := 272) (tgt := 278) (by decide +kernel : decode k_R_classes.2.1 272 = .ok (.ifCond .ne (6), 3)) (by decide) c1) ?_
    refine ai (r_iload (pc := 278) (k := 7) (by decide +kernel : decode k_R_classes.2.1 278 = .ok (.iload 6, 2)) rfl) ?_
    refine ai (e_istore (pc := 280) rfl (by decide +kernel : decode k_R_classes.2.1 280 = .ok (.istore 4, 2)) (by decide) rfl) ?_
    refine ai (r_iload (pc := 282) (k := 8) (by decide +kernel : decode k_R_classes.2.1 282 = .ok (.iload 7, 2)) rfl) ?_
    refine ai (e_istore (pc := 284) rfl (by decide +kernel : decode k_R_classes.2.1 284 = .ok (.istore 5, 2)) (by decide) rfl) ?_
    exact (ai (r_sub [3, 4, 5, 6, 1, 0, 7] rfl) (R_classes_286_run hk158 hL h))
set_option maxRecDepth 100000 in
set_option maxHeartbeats 4000000 in
theorem R_classes_263_run {k158 : Int32 → Int32 → Int32 → Int32 → Int32 → Int32 → Mem → Option (Unit × Mem)} {x1 : Int32} {x2 : Int32} {x3 : Int32} {x4 : Int32} {x5 : Int32} {x6 : Int32} {x7 : Int32} {m m' : Mem} {r : Unit} (hk158 : ∀ (x1 : Int32) (x2 : Int32) (x3 : Int32) (x4 : Int32) (x5 : Int32) (x6 : Int32) (m : Mem) (r : Unit) (m' : Mem), RL m → k158 x1 x2 x3 x4 x5 x6 m = some (r, m') → Run k_R_classes 158 [(0, .ref 0), (1, .int x1), (2, .int x2), (3, .int x3), (4, .int x4), (5, .int x5), (6, .int x6)] [] m none m' ∧ RL m') (hL : RL m) (h : R_classes_263 k158 x1 x2 x3 x4 x5 x6 x7 m = some (r, m')) : Run k_R_classes 263 [(0, .ref 0), (1, .int x1), (2, .int x2), (3, .int x3), (4, .int x4), (5, .int x5), (6, .int x6), (7, .int x7)] [] m none m' ∧ RL m' := by
  unfold R_classes_263 at h
  refine ai (r_iconst (pc := 263) (by decide +kernel : decode k_R_classes.2.1 263 = .ok (.iconst 1, 1)) ic_1) ?_
  refine ai (r_goto (pc := 264) (tgt := 268) (by decide +kernel : decode k_R_classes.2.1 264 = .ok (.goto (4), 3)) (by decide)) ?_
  exact (R_classes_268_run hk158 hL h)
set_option maxRecDepth 100000 in
set_option maxHeartbeats 4000000 in
theorem R_classes_267_run {k158 : Int32 → Int32 → Int32 → Int32 → Int32 → Int32 → Mem → Option (Unit × Mem)} {x1 : Int32} {x2 : Int32} {x3 : Int32} {x4 : Int32} {x5 : Int32} {x6 : Int32} {x7 : Int32} {m m' : Mem} {r : Unit} (hk158 : ∀ (x1 : Int32) (x2 : Int32) (x3 : Int32) (x4 : Int32) (x5 : Int32) (x6 : Int32) (m : Mem) (r : Unit) (m' : Mem), RL m → k158 x1 x2 x3 x4 x5 x6 m = some (r, m') → Run k_R_classes 158 [(0, .ref 0), (1, .int x1), (2, .int x2), (3, .int x3), (4, .int x4), (5, .int x5), (6, .int x6)] [] m none m' ∧ RL m') (hL : RL m) (h : R_classes_267 k158 x1 x2 x3 x4 x5 x6 x7 m = some (r, m')) : Run k_R_classes 267 [(0, .ref 0), (1, .int x1), (2, .int x2), (3, .int x3), (4, .int x4), (5, .int x5), (6, .int x6), (7, .int x7)] [] m none m' ∧ RL m' := by
  unfold R_classes_267 at h
  refine ai (r_iconst (pc := 267) (by decide +kernel : decode k_R_classes.2.1 267 = .ok (.iconst 0, 1)) ic_0) ?_
  exact (R_classes_268_run hk158 hL h)
set_option maxRecDepth 100000 in
set_option maxHeartbeats 4000000 in
theorem R_classes_256_run {k158 : Int32 → Int32 → Int32 → Int32 → Int32 → Int32 → Mem → Option (Unit × Mem)} {x1 : Int32} {x2 : Int32} {x3 : Int32} {x4 : Int32} {x5 : Int32} {x6 : Int32} {x7 : Int32} {m m' : Mem} {r : Unit} (hk158 : ∀ (x1 : Int32) (x2 : Int32) (x3 : Int32) (x4 : Int32) (x5 : Int32) (x6 : Int32) (m : Mem) (r : Unit) (m' : Mem), RL m → k158 x1 x2 x3 x4 x5 x6 m = some (r, m') → Run k_R_classes 158 [(0, .ref 0), (1, .int x1), (2, .int x2), (3, .int x3), (4, .int x4), (5, .int x5), (6, .int x6)] [] m none m' ∧ RL m') (hL : RL m) (h : R_classes_256 k158 x1 x2 x3 x4 x5 x6 x7 m = some (r, m')) : Run k_R_classes 256 [(0, .ref 0), (1, .int x1), (2, .int x2), (3, .int x3), (4, .int x4), (5, .int x5), (6, .int x6), (7, .int x7)] [] m none m' ∧ RL m' := by
  unfold R_classes_256 at h
  refine ai (r_iload (pc := 256) (k := 7) (by decide +kernel : decode k_R_classes.2.1 256 = .ok (.iload 7, 2)) rfl) ?_
  refine ai (r_iload (pc := 258) (k := 5) (by decide +kernel : decode k_R_classes.2.1 258 = .ok (.iload 5, 2)) rfl) ?_
  rcases ite_some h with ⟨c1, h⟩ | ⟨c1, h⟩
  · refine ai (r_icmp_le_t (pc := 260) (tgt := 267) (by decide +kernel : decode k_R_classes.2.1 260 = .ok (.if_icmp .le (7), 3)) (by decide) c1) ?_
    exact (R_classes_267_run hk158 hL h)
  · refine ai (r_icmp_le_f (pc := 260) 267 (by decide +kernel : decode k_R_classes.2.1 260 = .ok (.if_icmp .le (7), 3)) (by decide) c1) ?_
    exact (R_classes_263_run hk158 hL h)
set_option maxRecDepth 100000 in
set_option maxHeartbeats 4000000 in
theorem R_classes_229_run {k158 : Int32 → Int32 → Int32 → Int32 → Int32 → Int32 → Mem → Option (Unit × Mem)} {x1 : Int32} {x2 : Int32} {x3 : Int32} {x4 : Int32} {x5 : Int32} {x6 : Int32} {x7 : Int32} {m m' : Mem} {r : Unit} (hk158 : ∀ (x1 : Int32) (x2 : Int32) (x3 : Int32) (x4 : Int32) (x5 : Int32) (x6 : Int32) (m : Mem) (r : Unit) (m' : Mem), RL m → k158 x1 x2 x3 x4 x5 x6 m = some (r, m') → Run k_R_classes 158 [(0, .ref 0), (1, .int x1), (2, .int x2), (3, .int x3), (4, .int x4), (5, .int x5), (6, .int x6)] [] m none m' ∧ RL m') (hL : RL m) (h : R_classes_229 k158 x1 x2 x3 x4 x5 x6 x7 m = some (r, m')) : Run k_R_classes 229 [(0, .ref 0), (1, .int x1), (2, .int x2), (3, .int x3), (4, .int x4), (5, .int x5), (6, .int x6), (7, .int x7)] [] m none m' ∧ RL m' := by
  unfold R_classes_229 at h
  refine ai (p_aload_n (pc := 229) (k := 0) (by decide +kernel : decode k_R_classes.2.1 229 = .ok (.aload_n 0, 1)) rfl rfl) ?_
  refine ai (p_getr (pc := 230) (RR_1619_0 hL) (by decide +kernel : decode k_R_classes.2.1 230 = .ok (.getfield 188, 3)) lg_12_188 (RC_0 hL).1) ?_
  refine ai (r_iload_n (pc := 233) (k := 1) (by decide +kernel : decode k_R_classes.2.1 233 = .ok (.iload_n 1, 1)) rfl rfl) ?_
  obtain ⟨g1, h⟩ := gd_some h
  refine ai (p_iald (pc := 234) (by decide +kernel : decode k_R_classes.2.1 234 = .ok (.iaload, 1)) (RC_56 hL).1 (RC_56 hL).2 g1) ?_
  refine ai (r_iconst (pc := 235) (by decide +kernel : decode k_R_classes.2.1 235 = .ok (.iconst 2, 1)) ic_2) ?_
  rcases ite_some h with ⟨c2, h⟩ | ⟨c2, h⟩
  · refine ai (r_icmp_eq_t (pc := 236) (tgt := 256) (by decide +kernel : decode k_R_classes.2.1 236 = .ok (.if_icmp .eq (20), 3)) (by decide) c2) ?_
    exact (R_classes_256_run hk158 hL h)
  · refine ai (r_icmp_eq_f (pc := 236) 256 (by decide +kernel : decode k_R_classes.2.1 236 = .ok (.if_icmp .eq (20), 3)) (by decide) c2) ?_
    refine ai (p_aload_n (pc := 239) (k := 0) (by decide +kernel : decode k_R_classes.2.1 239 = .ok (.aload_n 0, 1)) rfl rfl) ?_
    refine ai (p_getr (pc := 240) (RR_1641_0 hL) (by decide +kernel : decode k_R_classes.2.1 240 = .ok (.getfield 233, 3)) lg_12_233 (RC_0 hL).1) ?_
    refine ai (r_iload (pc := 243) (k := 6) (by decide +kernel : decode k_R_classes.2.1 243 = .ok (.iload 6, 2)) rfl) ?_
    obtain ⟨g3, h⟩ := gd_some h
    refine ai (p_iald (pc := 245) (by decide +kernel : decode k_R_classes.2.1 245 = .ok (.iaload, 1)) (RC_69 hL).1 (RC_69 hL).2 g3) ?_
    refine ai (p_aload_n (pc := 246) (k := 0) (by decide +kernel : decode k_R_classes.2.1 246 = .ok (.aload_n 0, 1)) rfl rfl) ?_
    refine ai (p_getr (pc := 247) (RR_1641_0 hL) (by decide +kernel : decode k_R_classes.2.1 247 = .ok (.getfield 233, 3)) lg_12_233 (RC_0 hL).1) ?_
    refine ai (r_iload (pc := 250) (k := 4) (by decide +kernel : decode k_R_classes.2.1 250 = .ok (.iload 4, 2)) rfl) ?_
    obtain ⟨g4, h⟩ := gd_some h
    refine ai (p_iald (pc := 252) (by decide +kernel : decode k_R_classes.2.1 252 = .ok (.iaload, 1)) (RC_69 hL).1 (RC_69 hL).2 g4) ?_
    rcases ite_some h with ⟨c5, h⟩ | ⟨c5, h⟩
    · refine ai (r_icmp_ne_f (pc := 253) 267 (by decide +kernel : decode k_R_classes.2.1 253 = .ok (.if_icmp .ne (14), 3)) (by decide) c5) ?_
      exact (R_classes_256_run hk158 hL h)
    · refine ai (r_icmp_ne_t (pc := 253) (tgt := 267) (by decide +kernel : decode k_R_classes.2.1 253 = .ok (.if_icmp .ne (14), 3)) (by decide) c5) ?_
      exact (R_classes_267_run hk158 hL h)
set_option maxRecDepth 100000 in
set_option maxHeartbeats 4000000 in
theorem R_classes_378_run {k295 : Int32 → Int32 → Int32 → Int32 → Mem → Option (Unit × Mem)} {x1 : Int32} {x2 : Int32} {x4 : Int32} {x6 : Int32} {m m' : Mem} {r : Unit} (hk295 : ∀ (x1 : Int32) (x2 : Int32) (x4 : Int32) (x6 : Int32) (m : Mem) (r : Unit) (m' : Mem), RL m → k295 x1 x2 x4 x6 m = some (r, m') → Run k_R_classes 295 [(0, .ref 0), (1, .int x1), (2, .int x2), (4, .int x4), (6, .int x6)] [] m none m' ∧ RL m') (hL : RL m) (h : R_classes_378 k295 x1 x2 x4 x6 m = some (r, m')) : Run k_R_classes 378 [(0, .ref 0), (1, .int x1), (2, .int x2), (4, .int x4), (6, .int x6)] [] m none m' ∧ RL m' := by
  unfold R_classes_378 at h
  obtain ⟨v1, hv1, h⟩ := vb_some h
  refine ai (e_iinc (pc := 378) (k := 4) hv1 ic_1 (by decide +kernel : decode k_R_classes.2.1 378 = .ok (.iinc 6 (1), 3)) rfl (by decide) rfl) ?_
  refine ai (r_goto (pc := 381) (tgt := 295) (by decide +kernel : decode k_R_classes.2.1 381 = .ok (.goto (-86), 3)) (by decide)) ?_
  exact (ai (r_sub [1, 2, 3, 4, 0] rfl) (hk295 x1 x2 x4 v1 m _ _ hL h))
set_option maxRecDepth 100000 in
set_option maxHeartbeats 4000000 in
theorem R_classes_354_run {k295 : Int32 → Int32 → Int32 → Int32 → Mem → Option (Unit × Mem)} {x1 : Int32} {x2 : Int32} {x4 : Int32} {x6 : Int32} {m m' : Mem} {r : Unit} (hk295 : ∀ (x1 : Int32) (x2 : Int32) (x4 : Int32) (x6 : Int32) (m : Mem) (r : Unit) (m' : Mem), RL m → k295 x1 x2 x4 x6 m = some (r, m') → Run k_R_classes 295 [(0, .ref 0), (1, .int x1), (2, .int x2), (4, .int x4), (6, .int x6)] [] m none m' ∧ RL m') (hL : RL m) (h : R_classes_354 k295 x1 x2 x4 x6 m = some (r, m')) : Run k_R_classes 354 [(0, .ref 0), (1, .int x1), (2, .int x2), (4, .int x4), (6, .int x6)] [] m none m' ∧ RL m' := by
  unfold R_classes_354 at h
  refine ai (r_iload_n (pc := 354) (k := 2) (by decide +kernel : decode k_R_classes.2.1 354 = .ok (.iload_n 2, 1)) rfl rfl) ?_
  rcases ite_some h with ⟨c1, h⟩ | ⟨c1, h⟩
  · refine ai (r_if_ne_f (pc := 355) 378 (by decide +kernel : decode k_R_classes.2.1 355 = .ok (.ifCond .ne (23), 3)) (by decide) c1) ?_
    refine ai (p_aload_n (pc := 358) (k := 0) (by decide +kernel : decode k_R_classes.2.1 358 = .ok (.aload_n 0, 1)) rfl rfl) ?_
    refine ai (p_getr (pc := 359) (RR_1633_0 hL) (by decide +kernel : decode k_R_classes.2.1 359 = .ok (.getfield 215, 3)) lg_12_215 (RC_0 hL).1) ?_
    refine ai (r_iload (pc := 362) (k := 4) (by decide +kernel : decode k_R_classes.2.1 362 = .ok (.iload 6, 2)) rfl) ?_
    obtain ⟨g2, h⟩ := gd_some h
    refine ai (p_iald (pc := 364) (by decide +kernel : decode k_R_classes.2.1 364 = .ok (.iaload, 1)) (RC_63 hL).1 (RC_63 hL).2 g2) ?_
    refine ai (r_iconst (pc := 365) (by decide +kernel : decode k_R_classes.2.1 365 = .ok (.iconst (-1), 1)) ic_m1) ?_
    rcases ite_some h with ⟨c3, h⟩ | ⟨c3, h⟩
    · refine ai (r_icmp_eq_t (pc := 366) (tgt := 378) (by decide +kernel : decode k_R_classes.2.1 366 = .ok (.if_icmp .eq (12), 3)) (by decide) c3) ?_
      exact (R_classes_378_run hk295 hL h)
    · refine ai (r_icmp_eq_f (pc := 366) 378 (by decide +kernel : decode k_R_classes.2.1 366 = .ok (.if_icmp .eq (12), 3)) (by decide) c3) ?_
      refine ai (p_aload_n (pc := 369) (k := 0) (by decide +kernel : decode k_R_classes.2.1 369 = .ok (.aload_n 0, 1)) rfl rfl) ?_
      refine ai (p_getr (pc := 370) (RR_1633_0 hL) (by decide +kernel : decode k_R_classes.2.1 370 = .ok (.getfield 215, 3)) lg_12_215 (RC_0 hL).1) ?_
      refine ai (r_iload (pc := 373) (k := 4) (by decide +kernel : decode k_R_classes.2.1 373 = .ok (.iload 6, 2)) rfl) ?_
      refine ai (r_iload (pc := 375) (k := 3) (by decide +kernel : decode k_R_classes.2.1 375 = .ok (.iload 4, 2)) rfl) ?_
      obtain ⟨g4, h⟩ := gd_some h
      have c5 := (RC_63 hL).1
      have c6 := (RC_63 hL).2
      obtain ⟨m7, hm7, h⟩ := vb_some h
      have hL : RL m7 := by rw [hm7]; exact hL
      refine ai (p_iast (pc := 377) hm7 (by decide +kernel : decode k_R_classes.2.1 377 = .ok (.iastore, 1)) c5 c6 g4) ?_
      exact (R_classes_378_run hk295 hL h)
  · refine ai (r_if_ne_t (pc := 355) (tgt := 378) (by decide +kernel : decode k_R_classes.2.1 355 = .ok (.ifCond .ne (23), 3)) (by decide) c1) ?_
    exact (R_classes_378_run hk295 hL h)
set_option maxRecDepth 100000 in
set_option maxHeartbeats 4000000 in
theorem R_classes_323_run {k295 : Int32 → Int32 → Int32 → Int32 → Mem → Option (Unit × Mem)} {x1 : Int32} {x2 : Int32} {x4 : Int32} {x6 : Int32} {s0 : Int32} {m m' : Mem} {r : Unit} (hk295 : ∀ (x1 : Int32) (x2 : Int32) (x4 : Int32) (x6 : Int32) (m : Mem) (r : Unit) (m' : Mem), RL m → k295 x1 x2 x4 x6 m = some (r, m') → Run k_R_classes 295 [(0, .ref 0), (1, .int x1), (2, .int x2), (4, .int x4), (6, .int x6)] [] m none m' ∧ RL m') (hL : RL m) (h : R_classes_323 k295 x1 x2 x4 x6 s0 m = some (r, m')) : Run k_R_classes 323 [(0, .ref 0), (1, .int x1), (2, .int x2), (4, .int x4), (6, .int x6)] [.int s0] m none m' ∧ RL m' := by
  unfold R_classes_323 at h
  refine ai (r_iload_n (pc := 323) (k := 1) (by decide +kernel : decode k_R_classes.2.1 323 = .ok (.iload_n 1, 1)) rfl rfl) ?_
  rcases ite_some h with ⟨c1, h⟩ | ⟨c1, h⟩
  · refine ai (r_icmp_eq_t (pc := 324) (tgt := 330) (by decide +kernel : decode k_R_classes.2.1 324 = .ok (.if_icmp .eq (6), 3)) (by decide) c1) ?_
    refine ai (r_iload_n (pc := 330) (k := 2) (by decide +kernel : decode k_R_classes.2.1 330 = .ok (.iload_n 2, 1)) rfl rfl) ?_
    rcases ite_some h with ⟨c2, h⟩ | ⟨c2, h⟩
    · refine ai (r_if_eq_t (pc := 331) (tgt := 354) (by decide +kernel : decode k_R_classes.2.1 331 = .ok (.ifCond .eq (23), 3)) (by decide) c2) ?_
      exact (R_classes_354_run hk295 hL h)
    · refine ai (r_if_eq_f (pc := 331) 354 (by decide +kernel : decode k_R_classes.2.1 331 = .ok (.ifCond .eq (23), 3)) (by decide) c2) ?_
      refine ai (p_aload_n (pc := 334) (k := 0) (by decide +kernel : decode k_R_classes.2.1 334 = .ok (.aload_n 0, 1)) rfl rfl) ?_
      refine ai (p_getr (pc := 335) (RR_1635_0 hL) (by decide +kernel : decode k_R_classes.2.1 335 = .ok (.getfield 221, 3)) lg_12_221 (RC_0 hL).1) ?_
      refine ai (r_iload (pc := 338) (k := 4) (by decide +kernel : decode k_R_classes.2.1 338 = .ok (.iload 6, 2)) rfl) ?_
      obtain ⟨g3, h⟩ := gd_some h
      refine ai (p_iald (pc := 340) (by decide +kernel : decode k_R_classes.2.1 340 = .ok (.iaload, 1)) (RC_65 hL).1 (RC_65 hL).2 g3) ?_
      refine ai (r_iconst (pc := 341) (by decide +kernel : decode k_R_classes.2.1 341 = .ok (.iconst (-1), 1)) ic_m1) ?_
      rcases ite_some h with ⟨c4, h⟩ | ⟨c4, h⟩
      · refine ai (r_icmp_eq_t (pc := 342) (tgt := 354) (by decide +kernel : decode k_R_classes.2.1 342 = .ok (.if_icmp .eq (12), 3)) (by decide) c4) ?_
        exact (R_classes_354_run hk295 hL h)
      · refine ai (r_icmp_eq_f (pc := 342) 354 (by decide +kernel : decode k_R_classes.2.1 342 = .ok (.if_icmp .eq (12), 3)) (by decide) c4) ?_
        refine ai (p_aload_n (pc := 345) (k := 0) (by decide +kernel : decode k_R_classes.2.1 345 = .ok (.aload_n 0, 1)) rfl rfl) ?_
        refine ai (p_getr (pc := 346) (RR_1635_0 hL) (by decide +kernel : decode k_R_classes.2.1 346 = .ok (.getfield 221, 3)) lg_12_221 (RC_0 hL).1) ?_
        refine ai (r_iload (pc := 349) (k := 4) (by decide +kernel : decode k_R_classes.2.1 349 = .ok (.iload 6, 2)) rfl) ?_
        refine ai (r_iload (pc := 351) (k := 3) (by decide +kernel : decode k_R_classes.2.1 351 = .ok (.iload 4, 2)) rfl) ?_
        obtain ⟨g5, h⟩ := gd_some h
        have c6 := (RC_65 hL).1
        have c7 := (RC_65 hL).2
        obtain ⟨m8, hm8, h⟩ := vb_some h
        have hL : RL m8 := by rw [hm8]; exact hL
        refine ai (p_iast (pc := 353) hm8 (by decide +kernel : decode k_R_classes.2.1 353 = .ok (.iastore, 1)) c6 c7 g5) ?_
        exact (R_classes_354_run hk295 hL h)
  · refine ai (r_icmp_eq_f (pc := 324) 330 (by decide +kernel : decode k_R_classes.2.1 324 = .ok (.if_icmp .eq (6), 3)) (by decide) c1) ?_
    refine ai (r_goto (pc := 327) (tgt := 378) (by decide +kernel : decode k_R_classes.2.1 327 = .ok (.goto (51), 3)) (by decide)) ?_
    exact (R_classes_378_run hk295 hL h)
set_option maxRecDepth 100000 in
set_option maxHeartbeats 4000000 in
theorem R_classes_295_run {n : Nat} {x1 : Int32} {x2 : Int32} {x4 : Int32} {x6 : Int32} {m m' : Mem} {r : Unit} (hL : RL m) (h : R_classes_295 n x1 x2 x4 x6 m = some (r, m')) : Run k_R_classes 295 [(0, .ref 0), (1, .int x1), (2, .int x2), (4, .int x4), (6, .int x6)] [] m none m' ∧ RL m' := by
  induction n generalizing x1 x2 x4 x6 m r m' with
  | zero => exact absurd h (by simp [R_classes_295])
  | succ n ih =>
    rw [R_classes_295.eq_2] at h
    refine ai (r_iload (pc := 295) (k := 4) (by decide +kernel : decode k_R_classes.2.1 295 = .ok (.iload 6, 2)) rfl) ?_
    refine ai (r_bipush (pc := 297) (by decide +kernel : decode k_R_classes.2.1 297 = .ok (.bipush (48), 2)) (by decide : _ = (48 : Int32))) ?_
    rcases ite_some h with ⟨c1, h⟩ | ⟨c1, h⟩
    · refine ai (r_icmp_ge_t (pc := 299) (tgt := 384) (by decide +kernel : decode k_R_classes.2.1 299 = .ok (.if_icmp .ge (85), 3)) (by decide) c1) ?_
      cases h
      exact ⟨r_vret rfl (by decide +kernel : decode k_R_classes.2.1 384 = .ok (.return_, 1)), hL⟩
    · refine ai (r_icmp_ge_f (pc := 299) 384 (by decide +kernel : decode k_R_classes.2.1 299 = .ok (.if_icmp .ge (85), 3)) (by decide) c1) ?_
      refine ai (r_iload_n (pc := 302) (k := 2) (by decide +kernel : decode k_R_classes.2.1 302 = .ok (.iload_n 2, 1)) rfl rfl) ?_
      rcases ite_some h with ⟨c2, h⟩ | ⟨c2, h⟩
      · refine ai (r_if_eq_t (pc := 303) (tgt := 316) (by decide +kernel : decode k_R_classes.2.1 303 = .ok (.ifCond .eq (13), 3)) (by decide) c2) ?_
        refine ai (p_aload_n (pc := 316) (k := 0) (by decide +kernel : decode k_R_classes.2.1 316 = .ok (.aload_n 0, 1)) rfl rfl) ?_
        refine ai (p_getr (pc := 317) (RR_1632_0 hL) (by decide +kernel : decode k_R_classes.2.1 317 = .ok (.getfield 212, 3)) lg_12_212 (RC_0 hL).1) ?_
        refine ai (r_iload (pc := 320) (k := 4) (by decide +kernel : decode k_R_classes.2.1 320 = .ok (.iload 6, 2)) rfl) ?_
        obtain ⟨g3, h⟩ := gd_some h
        refine ai (p_iald (pc := 322) (by decide +kernel : decode k_R_classes.2.1 322 = .ok (.iaload, 1)) (RC_62 hL).1 (RC_62 hL).2 g3) ?_
        exact (R_classes_323_run (fun _ _ _ _ _ _ _ q1 q3 => ih q1 q3) hL h)
      · refine ai (r_if_eq_f (pc := 303) 316 (by decide +kernel : decode k_R_classes.2.1 303 = .ok (.ifCond .eq (13), 3)) (by decide) c2) ?_
        refine ai (p_aload_n (pc := 306) (k := 0) (by decide +kernel : decode k_R_classes.2.1 306 = .ok (.aload_n 0, 1)) rfl rfl) ?_
        refine ai (p_getr (pc := 307) (RR_1634_0 hL) (by decide +kernel : decode k_R_classes.2.1 307 = .ok (.getfield 218, 3)) lg_12_218 (RC_0 hL).1) ?_
        refine ai (r_iload (pc := 310) (k := 4) (by decide +kernel : decode k_R_classes.2.1 310 = .ok (.iload 6, 2)) rfl) ?_
        obtain ⟨g4, h⟩ := gd_some h
        refine ai (p_iald (pc := 312) (by decide +kernel : decode k_R_classes.2.1 312 = .ok (.iaload, 1)) (RC_64 hL).1 (RC_64 hL).2 g4) ?_
        refine ai (r_goto (pc := 313) (tgt := 323) (by decide +kernel : decode k_R_classes.2.1 313 = .ok (.goto (10), 3)) (by decide)) ?_
        exact (R_classes_323_run (fun _ _ _ _ _ _ _ q1 q3 => ih q1 q3) hL h)
set_option maxRecDepth 100000 in
set_option maxHeartbeats 4000000 in
theorem R_classes_292_run {x1 : Int32} {x2 : Int32} {x4 : Int32} {m m' : Mem} {r : Unit} (hL : RL m) (h : R_classes_292 x1 x2 x4 m = some (r, m')) : Run k_R_classes 292 [(0, .ref 0), (1, .int x1), (2, .int x2), (4, .int x4)] [] m none m' ∧ RL m' := by
  unfold R_classes_292 at h
  refine ai (r_iconst (pc := 292) (by decide +kernel : decode k_R_classes.2.1 292 = .ok (.iconst 0, 1)) ic_0) ?_
  refine ai (e_istore (pc := 293) rfl (by decide +kernel : decode k_R_classes.2.1 293 = .ok (.istore 6, 2)) (by decide) rfl) ?_
  exact (ai (r_sub [1, 2, 3, 4, 0] rfl) (R_classes_295_run hL h))
set_option maxRecDepth 100000 in
set_option maxHeartbeats 4000000 in
theorem R_classes_158_run {n : Nat} {x1 : Int32} {x2 : Int32} {x3 : Int32} {x4 : Int32} {x5 : Int32} {x6 : Int32} {m m' : Mem} {r : Unit} (hL : RL m) (h : R_classes_158 n x1 x2 x3 x4 x5 x6 m = some (r, m')) : Run k_R_classes 158 [(0, .ref 0), (1, .int x1), (2, .int x2), (3, .int x3), (4, .int x4), (5, .int x5), (6, .int x6)] [] m none m' ∧ RL m' := by
  induction n generalizing x1 x2 x3 x4 x5 x6 m r m' with
  | zero => exact absurd h (by simp [R_classes_158])
  | succ n ih =>
    rw [R_classes_158.eq_2] at h
    refine ai (r_iload (pc := 158) (k := 6) (by decide +kernel : decode k_R_classes.2.1 158 = .ok (.iload 6, 2)) rfl) ?_
    refine ai (r_bipush (pc := 160) (by decide +kernel : decode k_R_classes.2.1 160 = .ok (.bipush (64), 2)) (by decide : _ = (64 : Int32))) ?_
    refine ai (r_iload_n (pc := 162) (k := 1) (by decide +kernel : decode k_R_classes.2.1 162 = .ok (.iload_n 1, 1)) rfl rfl) ?_
    refine ai (r_imul (pc := 163) (by decide +kernel : decode k_R_classes.2.1 163 = .ok (.imul, 1))) ?_
    refine ai (p_aload_n (pc := 164) (k := 0) (by decide +kernel : decode k_R_classes.2.1 164 = .ok (.aload_n 0, 1)) rfl rfl) ?_
    refine ai (p_getr (pc := 165) (RR_1616_0 hL) (by decide +kernel : decode k_R_classes.2.1 165 = .ok (.getfield 179, 3)) lg_12_179 (RC_0 hL).1) ?_
    refine ai (r_iload_n (pc := 168) (k := 1) (by decide +kernel : decode k_R_classes.2.1 168 = .ok (.iload_n 1, 1)) rfl rfl) ?_
    obtain ⟨g1, h⟩ := gd_some h
    refine ai (p_iald (pc := 169) (by decide +kernel : decode k_R_classes.2.1 169 = .ok (.iaload, 1)) (RC_53 hL).1 (RC_53 hL).2 g1) ?_
    refine ai (r_iadd (pc := 170) (by decide +kernel : decode k_R_classes.2.1 170 = .ok (.iadd, 1))) ?_
    rcases ite_some h with ⟨c2, h⟩ | ⟨c2, h⟩
    · refine ai (r_icmp_ge_t (pc := 171) (tgt := 292) (by decide +kernel : decode k_R_classes.2.1 171 = .ok (.if_icmp .ge (121), 3)) (by decide) c2) ?_
      exact (ai (r_sub [0, 1, 2, 4] rfl) (R_classes_292_run hL h))
    · refine ai (r_icmp_ge_f (pc := 171) 292 (by decide +kernel : decode k_R_classes.2.1 171 = .ok (.if_icmp .ge (121), 3)) (by decide) c2) ?_
      refine ai (p_aload_n (pc := 174) (k := 0) (by decide +kernel : decode k_R_classes.2.1 174 = .ok (.aload_n 0, 1)) rfl rfl) ?_
      refine ai (p_getr (pc := 175) (RR_1641_0 hL) (by decide +kernel : decode k_R_classes.2.1 175 = .ok (.getfield 233, 3)) lg_12_233 (RC_0 hL).1) ?_
      refine ai (r_iload (pc := 178) (k := 6) (by decide +kernel : decode k_R_classes.2.1 178 = .ok (.iload 6, 2)) rfl) ?_
      obtain ⟨g3, h⟩ := gd_some h
      refine ai (p_iald (pc := 180) (by decide +kernel : decode k_R_classes.2.1 180 = .ok (.iaload, 1)) (RC_69 hL).1 (RC_69 hL).2 g3) ?_
      rcases ite_some h with ⟨c4, h⟩ | ⟨c4, h⟩
      · refine ai (r_if_ne_f (pc := 181) 187 (by decide +kernel : decode k_R_classes.2.1 181 = .ok (.ifCond .ne (6), 3)) (by decide) c4) ?_
        refine ai (r_goto (pc := 184) (tgt := 286) (by decide +kernel : decode k_R_classes.2.1 184 = .ok (.goto (102), 3)) (by decide)) ?_
        exact (R_classes_286_run (fun _ _ _ _ _ _ _ _ _ q1 q3 => ih q1 q3) hL h)
      · refine ai (r_if_ne_t (pc := 181) (tgt := 187) (by decide +kernel : decode k_R_classes.2.1 181 = .ok (.ifCond .ne (6), 3)) (by decide) c4) ?_
        refine ai (p_aload_n (pc := 187) (k := 0) (by decide +kernel : decode k_R_classes.2.1 187 = .ok (.aload_n 0, 1)) rfl rfl) ?_
        refine ai (r_iload (pc := 188) (k := 6) (by decide +kernel : decode k_R_classes.2.1 188 = .ok (.iload 6, 2)) rfl) ?_
        refine ai (r_iload_n (pc := 190) (k := 3) (by decide +kernel : decode k_R_classes.2.1 190 = .ok (.iload_n 3, 1)) rfl rfl) ?_
        obtain ⟨r5, m6, hr5, h⟩ := bn_some h
        have q7 := R_heldMargin_run hL hr5
        have c8 := (RC_0 hL).1
        have hL := q7.2
        refine ai (q_callV (pc := 191) (As := [.int x6, .int x3]) (st := []) (st2 := [.int r5]) (b := 0) rfl rfl (by decide +kernel : decode k_R_classes.2.1 191 = .ok (.invokevirtual 531, 3)) lc_12_531 mo_R_heldMargin ⟨Nat.le_of_ble_eq_true rfl, Nat.le_of_ble_eq_true rfl⟩ (Nat.le_of_ble_eq_true rfl) (Nat.le_of_ble_eq_true rfl) c8 q7.1) ?_
        refine ai (e_istore (pc := 194) rfl (by decide +kernel : decode k_R_classes.2.1 194 = .ok (.istore 7, 2)) (by decide) rfl) ?_
        refine ai (r_iload (pc := 196) (k := 5) (by decide +kernel : decode k_R_classes.2.1 196 = .ok (.iload 4, 2)) rfl) ?_
        refine ai (r_iconst (pc := 198) (by decide +kernel : decode k_R_classes.2.1 198 = .ok (.iconst (-1), 1)) ic_m1) ?_
        rcases ite_some h with ⟨c9, h⟩ | ⟨c9, h⟩
        · refine ai (r_icmp_eq_t (pc := 199) (tgt := 263) (by decide +kernel : decode k_R_classes.2.1 199 = .ok (.if_icmp .eq (64), 3)) (by decide) c9) ?_
          exact (ai (r_sub [1, 2, 3, 4, 5, 6, 7, 0] rfl) (R_classes_263_run (fun _ _ _ _ _ _ _ _ _ q1 q3 => ih q1 q3) hL h))
        · refine ai (r_icmp_eq_f (pc := 199) 263 (by decide +kernel : decode k_R_classes.2.1 199 = .ok (.if_icmp .eq (64), 3)) (by decide) c9) ?_
          refine ai (p_aload_n (pc := 202) (k := 1) (by decide +kernel : decode k_R_classes.2.1 202 = .ok (.aload_n 0, 1)) rfl rfl) ?_
          refine ai (p_getr (pc := 203) (RR_1619_0 hL) (by decide +kernel : decode k_R_classes.2.1 203 = .ok (.getfield 188, 3)) lg_12_188 (RC_0 hL).1) ?_
          refine ai (r_iload_n (pc := 206) (k := 2) (by decide +kernel : decode k_R_classes.2.1 206 = .ok (.iload_n 1, 1)) rfl rfl) ?_
          obtain ⟨g10, h⟩ := gd_some h
          refine ai (p_iald (pc := 207) (by decide +kernel : decode k_R_classes.2.1 207 = .ok (.iaload, 1)) (RC_56 hL).1 (RC_56 hL).2 g10) ?_
          refine ai (r_iconst (pc := 208) (by decide +kernel : decode k_R_classes.2.1 208 = .ok (.iconst 1, 1)) ic_1) ?_
          rcases ite_some h with ⟨c11, h⟩ | ⟨c11, h⟩
          · refine ai (r_icmp_ne_f (pc := 209) 229 (by decide +kernel : decode k_R_classes.2.1 209 = .ok (.if_icmp .ne (20), 3)) (by decide) c11) ?_
            refine ai (p_aload_n (pc := 212) (k := 1) (by decide +kernel : decode k_R_classes.2.1 212 = .ok (.aload_n 0, 1)) rfl rfl) ?_
            refine ai (p_getr (pc := 213) (RR_1641_0 hL) (by decide +kernel : decode k_R_classes.2.1 213 = .ok (.getfield 233, 3)) lg_12_233 (RC_0 hL).1) ?_
            refine ai (r_iload (pc := 216) (k := 7) (by decide +kernel : decode k_R_classes.2.1 216 = .ok (.iload 6, 2)) rfl) ?_
            obtain ⟨g12, h⟩ := gd_some h
            refine ai (p_iald (pc := 218) (by decide +kernel : decode k_R_classes.2.1 218 = .ok (.iaload, 1)) (RC_69 hL).1 (RC_69 hL).2 g12) ?_
            refine ai (p_aload_n (pc := 219) (k := 1) (by decide +kernel : decode k_R_classes.2.1 219 = .ok (.aload_n 0, 1)) rfl rfl) ?_
            refine ai (p_getr (pc := 220) (RR_1641_0 hL) (by decide +kernel : decode k_R_classes.2.1 220 = .ok (.getfield 233, 3)) lg_12_233 (RC_0 hL).1) ?_
            refine ai (r_iload (pc := 223) (k := 5) (by decide +kernel : decode k_R_classes.2.1 223 = .ok (.iload 4, 2)) rfl) ?_
            obtain ⟨g13, h⟩ := gd_some h
            refine ai (p_iald (pc := 225) (by decide +kernel : decode k_R_classes.2.1 225 = .ok (.iaload, 1)) (RC_69 hL).1 (RC_69 hL).2 g13) ?_
            rcases ite_some h with ⟨c14, h⟩ | ⟨c14, h⟩
            · refine ai (r_icmp_gt_t (pc := 226) (tgt := 263) (by decide +kernel : decode k_R_classes.2.1 226 = .ok (.if_icmp .gt (37), 3)) (by decide) c14) ?_
              exact (ai (r_sub [1, 2, 3, 4, 5, 6, 7, 0] rfl) (R_classes_263_run (fun _ _ _ _ _ _ _ _ _ q1 q3 => ih q1 q3) hL h))
            · refine ai (r_icmp_gt_f (pc := 226) 263 (by decide +kernel : decode k_R_classes.2.1 226 = .ok (.if_icmp .gt (37), 3)) (by decide) c14) ?_
              exact (ai (r_sub [1, 2, 3, 4, 5, 6, 7, 0] rfl) (R_classes_229_run (fun _ _ _ _ _ _ _ _ _ q1 q3 => ih q1 q3) hL h))
          · refine ai (r_icmp_ne_t (pc := 209) (tgt := 229) (by decide +kernel : decode k_R_classes.2.1 209 = .ok (.if_icmp .ne (20), 3)) (by decide) c11) ?_
            exact (ai (r_sub [1, 2, 3, 4, 5, 6, 7, 0] rfl) (R_classes_229_run (fun _ _ _ _ _ _ _ _ _ q1 q3 => ih q1 q3) hL h))
set_option maxRecDepth 100000 in
set_option maxHeartbeats 4000000 in
theorem R_classes_139_run {x1 : Int32} {x2 : Int32} {x3 : Int32} {x4 : Int32} {m m' : Mem} {r : Unit} (hL : RL m) (h : R_classes_139 x1 x2 x3 x4 m = some (r, m')) : Run k_R_classes 139 [(0, .ref 0), (1, .int x1), (2, .int x2), (3, .int x3), (4, .int x4)] [] m none m' ∧ RL m' := by
  unfold R_classes_139 at h
  refine ai (p_aload_n (pc := 139) (k := 0) (by decide +kernel : decode k_R_classes.2.1 139 = .ok (.aload_n 0, 1)) rfl rfl) ?_
  refine ai (p_getr (pc := 140) (RR_1619_0 hL) (by decide +kernel : decode k_R_classes.2.1 140 = .ok (.getfield 188, 3)) lg_12_188 (RC_0 hL).1) ?_
  refine ai (r_iload_n (pc := 143) (k := 1) (by decide +kernel : decode k_R_classes.2.1 143 = .ok (.iload_n 1, 1)) rfl rfl) ?_
  obtain ⟨g1, h⟩ := gd_some h
  refine ai (p_iald (pc := 144) (by decide +kernel : decode k_R_classes.2.1 144 = .ok (.iaload, 1)) (RC_56 hL).1 (RC_56 hL).2 g1) ?_
  rcases ite_some h with ⟨c2, h⟩ | ⟨c2, h⟩
  · refine ai (r_if_ne_f (pc := 145) 149 (by decide +kernel : decode k_R_classes.2.1 145 = .ok (.ifCond .ne (4), 3)) (by decide) c2) ?_
    cases h
    exact ⟨r_vret rfl (by decide +kernel : decode k_R_classes.2.1 148 = .ok (.return_, 1)), hL⟩
  · refine ai (r_if_ne_t (pc := 145) (tgt := 149) (by decide +kernel : decode k_R_classes.2.1 145 = .ok (.ifCond .ne (4), 3)) (by decide) c2) ?_
    refine ai (r_iconst (pc := 149) (by decide +kernel : decode k_R_classes.2.1 149 = .ok (.iconst 0, 1)) ic_0) ?_
    refine ai (e_istore (pc := 150) rfl (by decide +kernel : decode k_R_classes.2.1 150 = .ok (.istore 5, 2)) (by decide) rfl) ?_
    refine ai (r_bipush (pc := 152) (by decide +kernel : decode k_R_classes.2.1 152 = .ok (.bipush (64), 2)) (by decide : _ = (64 : Int32))) ?_
    refine ai (r_iload_n (pc := 154) (k := 2) (by decide +kernel : decode k_R_classes.2.1 154 = .ok (.iload_n 1, 1)) rfl rfl) ?_
    refine ai (r_imul (pc := 155) (by decide +kernel : decode k_R_classes.2.1 155 = .ok (.imul, 1))) ?_
    obtain ⟨v3, hv3, h⟩ := vb_some h
    refine ai (e_istore (pc := 156) hv3 (by decide +kernel : decode k_R_classes.2.1 156 = .ok (.istore 6, 2)) (by decide) rfl) ?_
    exact (ai (r_sub [2, 3, 4, 5, 6, 1, 0] rfl) (R_classes_158_run hL h))
set_option maxRecDepth 100000 in
set_option maxHeartbeats 4000000 in
theorem R_classes_42_run {n : Nat} {x1 : Int32} {x2 : Int32} {x3 : Int32} {x4 : Int32} {x5 : Int32} {m m' : Mem} {r : Unit} (hL : RL m) (h : R_classes_42 n x1 x2 x3 x4 x5 m = some (r, m')) : Run k_R_classes 42 [(0, .ref 0), (1, .int x1), (2, .int x2), (3, .int x3), (4, .int x4), (5, .int x5)] [] m none m' ∧ RL m' := by
  induction n generalizing x1 x2 x3 x4 x5 m r m' with
  | zero => exact absurd h (by simp [R_classes_42])
  | succ n ih =>
    rw [R_classes_42.eq_2] at h
    refine ai (r_iload (pc := 42) (k := 5) (by decide +kernel : decode k_R_classes.2.1 42 = .ok (.iload 5, 2)) rfl) ?_
    refine ai (r_bipush (pc := 44) (by decide +kernel : decode k_R_classes.2.1 44 = .ok (.bipush (48), 2)) (by decide : _ = (48 : Int32))) ?_
    rcases ite_some h with ⟨c1, h⟩ | ⟨c1, h⟩
    · refine ai (r_icmp_ge_t (pc := 46) (tgt := 139) (by decide +kernel : decode k_R_classes.2.1 46 = .ok (.if_icmp .ge (93), 3)) (by decide) c1) ?_
      exact (ai (r_sub [0, 1, 2, 3, 4] rfl) (R_classes_139_run hL h))
    · refine ai (r_icmp_ge_f (pc := 46) 139 (by decide +kernel : decode k_R_classes.2.1 46 = .ok (.if_icmp .ge (93), 3)) (by decide) c1) ?_
      refine ai (r_iload_n (pc := 49) (k := 2) (by decide +kernel : decode k_R_classes.2.1 49 = .ok (.iload_n 2, 1)) rfl rfl) ?_
      rcases ite_some h with ⟨c2, h⟩ | ⟨c2, h⟩
      · refine ai (r_if_eq_t (pc := 50) (tgt := 63) (by decide +kernel : decode k_R_classes.2.1 50 = .ok (.ifCond .eq (13), 3)) (by decide) c2) ?_
        refine ai (p_aload_n (pc := 63) (k := 0) (by decide +kernel : decode k_R_classes.2.1 63 = .ok (.aload_n 0, 1)) rfl rfl) ?_
        refine ai (p_getr (pc := 64) (RR_1632_0 hL) (by decide +kernel : decode k_R_classes.2.1 64 = .ok (.getfield 212, 3)) lg_12_212 (RC_0 hL).1) ?_
        refine ai (r_iload (pc := 67) (k := 5) (by decide +kernel : decode k_R_classes.2.1 67 = .ok (.iload 5, 2)) rfl) ?_
        obtain ⟨g3, h⟩ := gd_some h
        refine ai (p_iald (pc := 69) (by decide +kernel : decode k_R_classes.2.1 69 = .ok (.iaload, 1)) (RC_62 hL).1 (RC_62 hL).2 g3) ?_
        exact (R_classes_70_run (fun _ _ _ _ _ _ _ _ q1 q3 => ih q1 q3) hL h)
      · refine ai (r_if_eq_f (pc := 50) 63 (by decide +kernel : decode k_R_classes.2.1 50 = .ok (.ifCond .eq (13), 3)) (by decide) c2) ?_
        refine ai (p_aload_n (pc := 53) (k := 0) (by decide +kernel : decode k_R_classes.2.1 53 = .ok (.aload_n 0, 1)) rfl rfl) ?_
        refine ai (p_getr (pc := 54) (RR_1634_0 hL) (by decide +kernel : decode k_R_classes.2.1 54 = .ok (.getfield 218, 3)) lg_12_218 (RC_0 hL).1) ?_
        refine ai (r_iload (pc := 57) (k := 5) (by decide +kernel : decode k_R_classes.2.1 57 = .ok (.iload 5, 2)) rfl) ?_
        obtain ⟨g4, h⟩ := gd_some h
        refine ai (p_iald (pc := 59) (by decide +kernel : decode k_R_classes.2.1 59 = .ok (.iaload, 1)) (RC_64 hL).1 (RC_64 hL).2 g4) ?_
        refine ai (r_goto (pc := 60) (tgt := 70) (by decide +kernel : decode k_R_classes.2.1 60 = .ok (.goto (10), 3)) (by decide)) ?_
        exact (R_classes_70_run (fun _ _ _ _ _ _ _ _ q1 q3 => ih q1 q3) hL h)
set_option maxRecDepth 100000 in
set_option maxHeartbeats 4000000 in
theorem R_classes_36_run {x1 : Int32} {x2 : Int32} {x3 : Int32} {m m' : Mem} {r : Unit} (hL : RL m) (h : R_classes_36 x1 x2 x3 m = some (r, m')) : Run k_R_classes 36 [(0, .ref 0), (1, .int x1), (2, .int x2), (3, .int x3)] [] m none m' ∧ RL m' := by
  unfold R_classes_36 at h
  refine ai (r_iconst (pc := 36) (by decide +kernel : decode k_R_classes.2.1 36 = .ok (.iconst (-1), 1)) ic_m1) ?_
  refine ai (e_istore (pc := 37) rfl (by decide +kernel : decode k_R_classes.2.1 37 = .ok (.istore 4, 2)) (by decide) rfl) ?_
  refine ai (r_iconst (pc := 39) (by decide +kernel : decode k_R_classes.2.1 39 = .ok (.iconst 0, 1)) ic_0) ?_
  refine ai (e_istore (pc := 40) rfl (by decide +kernel : decode k_R_classes.2.1 40 = .ok (.istore 5, 2)) (by decide) rfl) ?_
  exact (ai (r_sub [2, 3, 4, 5, 1, 0] rfl) (R_classes_42_run hL h))
set_option maxRecDepth 100000 in
set_option maxHeartbeats 4000000 in
theorem R_classes_6_run {n : Nat} {x1 : Int32} {x2 : Int32} {x3 : Int32} {x4 : Int32} {m m' : Mem} {r : Unit} (hL : RL m) (h : R_classes_6 n x1 x2 x3 x4 m = some (r, m')) : Run k_R_classes 6 [(0, .ref 0), (1, .int x1), (2, .int x2), (3, .int x3), (4, .int x4)] [] m none m' ∧ RL m' := by
  induction n generalizing x1 x2 x3 x4 m r m' with
  | zero => exact absurd h (by simp [R_classes_6])
  | succ n ih =>
    rw [R_classes_6.eq_2] at h
    refine ai (r_iload (pc := 6) (k := 4) (by decide +kernel : decode k_R_classes.2.1 6 = .ok (.iload 4, 2)) rfl) ?_
    refine ai (r_bipush (pc := 8) (by decide +kernel : decode k_R_classes.2.1 8 = .ok (.bipush (64), 2)) (by decide : _ = (64 : Int32))) ?_
    refine ai (r_iload_n (pc := 10) (k := 1) (by decide +kernel : decode k_R_classes.2.1 10 = .ok (.iload_n 1, 1)) rfl rfl) ?_
    refine ai (r_imul (pc := 11) (by decide +kernel : decode k_R_classes.2.1 11 = .ok (.imul, 1))) ?_
    refine ai (p_aload_n (pc := 12) (k := 0) (by decide +kernel : decode k_R_classes.2.1 12 = .ok (.aload_n 0, 1)) rfl rfl) ?_
    refine ai (p_getr (pc := 13) (RR_1616_0 hL) (by decide +kernel : decode k_R_classes.2.1 13 = .ok (.getfield 179, 3)) lg_12_179 (RC_0 hL).1) ?_
    refine ai (r_iload_n (pc := 16) (k := 1) (by decide +kernel : decode k_R_classes.2.1 16 = .ok (.iload_n 1, 1)) rfl rfl) ?_
    obtain ⟨g1, h⟩ := gd_some h
    refine ai (p_iald (pc := 17) (by decide +kernel : decode k_R_classes.2.1 17 = .ok (.iaload, 1)) (RC_53 hL).1 (RC_53 hL).2 g1) ?_
    refine ai (r_iadd (pc := 18) (by decide +kernel : decode k_R_classes.2.1 18 = .ok (.iadd, 1))) ?_
    rcases ite_some h with ⟨c2, h⟩ | ⟨c2, h⟩
    · refine ai (r_icmp_ge_t (pc := 19) (tgt := 36) (by decide +kernel : decode k_R_classes.2.1 19 = .ok (.if_icmp .ge (17), 3)) (by decide) c2) ?_
      exact (ai (r_sub [0, 1, 2, 3] rfl) (R_classes_36_run hL h))
    · refine ai (r_icmp_ge_f (pc := 19) 36 (by decide +kernel : decode k_R_classes.2.1 19 = .ok (.if_icmp .ge (17), 3)) (by decide) c2) ?_
      refine ai (p_aload_n (pc := 22) (k := 0) (by decide +kernel : decode k_R_classes.2.1 22 = .ok (.aload_n 0, 1)) rfl rfl) ?_
      refine ai (p_getr (pc := 23) (RR_1641_0 hL) (by decide +kernel : decode k_R_classes.2.1 23 = .ok (.getfield 233, 3)) lg_12_233 (RC_0 hL).1) ?_
      refine ai (r_iload (pc := 26) (k := 4) (by decide +kernel : decode k_R_classes.2.1 26 = .ok (.iload 4, 2)) rfl) ?_
      refine ai (r_iconst (pc := 28) (by decide +kernel : decode k_R_classes.2.1 28 = .ok (.iconst 0, 1)) ic_0) ?_
      obtain ⟨g3, h⟩ := gd_some h
      have c4 := (RC_69 hL).1
      have c5 := (RC_69 hL).2
      obtain ⟨m6, hm6, h⟩ := vb_some h
      have hL : RL m6 := by rw [hm6]; exact hL
      refine ai (p_iast (pc := 29) hm6 (by decide +kernel : decode k_R_classes.2.1 29 = .ok (.iastore, 1)) c4 c5 g3) ?_
      obtain ⟨v7, hv7, h⟩ := vb_some h
      refine ai (e_iinc (pc := 30) (k := 4) hv7 ic_1 (by decide +kernel : decode k_R_classes.2.1 30 = .ok (.iinc 4 (1), 3)) rfl (by decide) rfl) ?_
      refine ai (r_goto (pc := 33) (tgt := 6) (by decide +kernel : decode k_R_classes.2.1 33 = .ok (.goto (-27), 3)) (by decide)) ?_
      exact (ai (r_sub [1, 2, 3, 4, 0] rfl) (ih hL h))
set_option maxRecDepth 100000 in
set_option maxHeartbeats 4000000 in
theorem R_classes_run {x1 : Int32} {x2 : Int32} {x3 : Int32} {m m' : Mem} {r : Unit} (hL : RL m) (h : R_classes x1 x2 x3 m = some (r, m')) : Run k_R_classes 0 [(0, .ref 0), (1, .int x1), (2, .int x2), (3, .int x3)] [] m none m' ∧ RL m' := by
  unfold R_classes at h
  refine ai (r_bipush (pc := 0) (by decide +kernel : decode k_R_classes.2.1 0 = .ok (.bipush (64), 2)) (by decide : _ = (64 : Int32))) ?_
  refine ai (r_iload_n (pc := 2) (k := 1) (by decide +kernel : decode k_R_classes.2.1 2 = .ok (.iload_n 1, 1)) rfl rfl) ?_
  refine ai (r_imul (pc := 3) (by decide +kernel : decode k_R_classes.2.1 3 = .ok (.imul, 1))) ?_
  obtain ⟨v1, hv1, h⟩ := vb_some h
  refine ai (e_istore (pc := 4) hv1 (by decide +kernel : decode k_R_classes.2.1 4 = .ok (.istore 4, 2)) (by decide) rfl) ?_
  exact (ai (r_sub [1, 2, 3, 4, 0] rfl) (R_classes_6_run hL h))
set_option maxRecDepth 100000 in
set_option maxHeartbeats 4000000 in
theorem R_isBarred_54_run {k2 : Int32 → Int32 → Mem → Option (Int32 × Mem)} {x1 : Int32} {x2 : Int32} {m m' : Mem} {r : Int32} (hk2 : ∀ (x1 : Int32) (x2 : Int32) (m : Mem) (r : Int32) (m' : Mem), RL m → k2 x1 x2 m = some (r, m') → Run k_R_isBarred 2 [(0, .ref 0), (1, .int x1), (2, .int x2)] [] m (some (.int r)) m' ∧ RL m') (hL : RL m) (h : R_isBarred_54 k2 x1 x2 m = some (r, m')) : Run k_R_isBarred 54 [(0, .ref 0), (1, .int x1), (2, .int x2)] [] m (some (.int r)) m' ∧ RL m' := by
  unfold R_isBarred_54 at h
  obtain ⟨v1, hv1, h⟩ := vb_some h
  refine ai (e_iinc (pc := 54) (k := 2) hv1 ic_1 (by decide +kernel : decode k_R_isBarred.2.1 54 = .ok (.iinc 2 (1), 3)) rfl (by decide) rfl) ?_
  refine ai (r_goto (pc := 57) (tgt := 2) (by decide +kernel : decode k_R_isBarred.2.1 57 = .ok (.goto (-55), 3)) (by decide)) ?_
  exact (ai (r_sub [1, 2, 0] rfl) (hk2 x1 v1 m _ _ hL h))
set_option maxRecDepth 100000 in
set_option maxHeartbeats 4000000 in
theorem R_isBarred_12_run {k2 : Int32 → Int32 → Mem → Option (Int32 × Mem)} {n : Nat} {x1 : Int32} {x2 : Int32} {x3 : Int32} {m m' : Mem} {r : Int32} (hk2 : ∀ (x1 : Int32) (x2 : Int32) (m : Mem) (r : Int32) (m' : Mem), RL m → k2 x1 x2 m = some (r, m') → Run k_R_isBarred 2 [(0, .ref 0), (1, .int x1), (2, .int x2)] [] m (some (.int r)) m' ∧ RL m') (hL : RL m) (h : R_isBarred_12 k2 n x1 x2 x3 m = some (r, m')) : Run k_R_isBarred 12 [(0, .ref 0), (1, .int x1), (2, .int x2), (3, .int x3)] [] m (some (.int r)) m' ∧ RL m' := by
  induction n generalizing x1 x2 x3 m r m' with
  | zero => exact absurd h (by simp [R_isBarred_12])
  | succ n ih =>
    rw [R_isBarred_12.eq_2] at h
    refine ai (r_iload_n (pc := 12) (k := 3) (by decide +kernel : decode k_R_isBarred.2.1 12 = .ok (.iload_n 3, 1)) rfl rfl) ?_
    refine ai (p_aload_n (pc := 13) (k := 0) (by decide +kernel : decode k_R_isBarred.2.1 13 = .ok (.aload_n 0, 1)) rfl rfl) ?_
    refine ai (p_getr (pc := 14) (RR_1572_0 hL) (by decide +kernel : decode k_R_isBarred.2.1 14 = .ok (.getfield 92, 3)) lg_12_92 (RC_0 hL).1) ?_
    refine ai (p_aload_n (pc := 17) (k := 0) (by decide +kernel : decode k_R_isBarred.2.1 17 = .ok (.aload_n 0, 1)) rfl rfl) ?_
    refine ai (p_getr (pc := 18) (RR_1645_0 hL) (by decide +kernel : decode k_R_isBarred.2.1 18 = .ok (.getfield 239, 3)) lg_12_239 (RC_0 hL).1) ?_
    refine ai (r_iload_n (pc := 21) (k := 2) (by decide +kernel : decode k_R_isBarred.2.1 21 = .ok (.iload_n 2, 1)) rfl rfl) ?_
    obtain ⟨g1, h⟩ := gd_some h
    refine ai (p_iald (pc := 22) (by decide +kernel : decode k_R_isBarred.2.1 22 = .ok (.iaload, 1)) (RC_71 hL).1 (RC_71 hL).2 g1) ?_
    obtain ⟨g2, h⟩ := gd_some h
    refine ai (p_iald (pc := 23) (by decide +kernel : decode k_R_isBarred.2.1 23 = .ok (.iaload, 1)) (RC_25 hL).1 (RC_25 hL).2 g2) ?_
    rcases ite_some h with ⟨c3, h⟩ | ⟨c3, h⟩
    · refine ai (r_icmp_ge_t (pc := 24) (tgt := 54) (by decide +kernel : decode k_R_isBarred.2.1 24 = .ok (.if_icmp .ge (30), 3)) (by decide) c3) ?_
      exact (ai (r_sub [0, 1, 2] rfl) (R_isBarred_54_run hk2 hL h))
    · refine ai (r_icmp_ge_f (pc := 24) 54 (by decide +kernel : decode k_R_isBarred.2.1 24 = .ok (.if_icmp .ge (30), 3)) (by decide) c3) ?_
      refine ai (p_aload_n (pc := 27) (k := 0) (by decide +kernel : decode k_R_isBarred.2.1 27 = .ok (.aload_n 0, 1)) rfl rfl) ?_
      refine ai (p_getr (pc := 28) (RR_1573_0 hL) (by decide +kernel : decode k_R_isBarred.2.1 28 = .ok (.getfield 95, 3)) lg_12_95 (RC_0 hL).1) ?_
      refine ai (r_iconst (pc := 31) (by decide +kernel : decode k_R_isBarred.2.1 31 = .ok (.iconst 4, 1)) ic_4) ?_
      refine ai (p_aload_n (pc := 32) (k := 0) (by decide +kernel : decode k_R_isBarred.2.1 32 = .ok (.aload_n 0, 1)) rfl rfl) ?_
      refine ai (p_getr (pc := 33) (RR_1645_0 hL) (by decide +kernel : decode k_R_isBarred.2.1 33 = .ok (.getfield 239, 3)) lg_12_239 (RC_0 hL).1) ?_
      refine ai (r_iload_n (pc := 36) (k := 2) (by decide +kernel : decode k_R_isBarred.2.1 36 = .ok (.iload_n 2, 1)) rfl rfl) ?_
      obtain ⟨g4, h⟩ := gd_some h
      refine ai (p_iald (pc := 37) (by decide +kernel : decode k_R_isBarred.2.1 37 = .ok (.iaload, 1)) (RC_71 hL).1 (RC_71 hL).2 g4) ?_
      refine ai (r_imul (pc := 38) (by decide +kernel : decode k_R_isBarred.2.1 38 = .ok (.imul, 1))) ?_
      refine ai (r_iload_n (pc := 39) (k := 3) (by decide +kernel : decode k_R_isBarred.2.1 39 = .ok (.iload_n 3, 1)) rfl rfl) ?_
      refine ai (r_iadd (pc := 40) (by decide +kernel : decode k_R_isBarred.2.1 40 = .ok (.iadd, 1))) ?_
      obtain ⟨g5, h⟩ := gd_some h
      refine ai (p_iald (pc := 41) (by decide +kernel : decode k_R_isBarred.2.1 41 = .ok (.iaload, 1)) (RC_26 hL).1 (RC_26 hL).2 g5) ?_
      refine ai (r_iload_n (pc := 42) (k := 1) (by decide +kernel : decode k_R_isBarred.2.1 42 = .ok (.iload_n 1, 1)) rfl rfl) ?_
      rcases ite_some h with ⟨c6, h⟩ | ⟨c6, h⟩
      · refine ai (r_icmp_ne_f (pc := 43) 48 (by decide +kernel : decode k_R_isBarred.2.1 43 = .ok (.if_icmp .ne (5), 3)) (by decide) c6) ?_
        refine ai (r_iconst (pc := 46) (by decide +kernel : decode k_R_isBarred.2.1 46 = .ok (.iconst 1, 1)) ic_1) ?_
        cases h
        exact ⟨r_zret (by decide) rfl (by decide +kernel : decode k_R_isBarred.2.1 47 = .ok (.ireturn, 1)), hL⟩
      · refine ai (r_icmp_ne_t (pc := 43) (tgt := 48) (by decide +kernel : decode k_R_isBarred.2.1 43 = .ok (.if_icmp .ne (5), 3)) (by decide) c6) ?_
        obtain ⟨v7, hv7, h⟩ := vb_some h
        refine ai (e_iinc (pc := 48) (k := 3) hv7 ic_1 (by decide +kernel : decode k_R_isBarred.2.1 48 = .ok (.iinc 3 (1), 3)) rfl (by decide) rfl) ?_
        refine ai (r_goto (pc := 51) (tgt := 12) (by decide +kernel : decode k_R_isBarred.2.1 51 = .ok (.goto (-39), 3)) (by decide)) ?_
        exact (ai (r_sub [1, 2, 3, 0] rfl) (ih hL h))
set_option maxRecDepth 100000 in
set_option maxHeartbeats 4000000 in
theorem R_isBarred_2_run {n : Nat} {x1 : Int32} {x2 : Int32} {m m' : Mem} {r : Int32} (hL : RL m) (h : R_isBarred_2 n x1 x2 m = some (r, m')) : Run k_R_isBarred 2 [(0, .ref 0), (1, .int x1), (2, .int x2)] [] m (some (.int r)) m' ∧ RL m' := by
  induction n generalizing x1 x2 m r m' with
  | zero => exact absurd h (by simp [R_isBarred_2])
  | succ n ih =>
    rw [R_isBarred_2.eq_2] at h
    refine ai (r_iload_n (pc := 2) (k := 2) (by decide +kernel : decode k_R_isBarred.2.1 2 = .ok (.iload_n 2, 1)) rfl rfl) ?_
    refine ai (p_aload_n (pc := 3) (k := 0) (by decide +kernel : decode k_R_isBarred.2.1 3 = .ok (.aload_n 0, 1)) rfl rfl) ?_
    refine ai (r_getI (pc := 4) (by decide +kernel : decode k_R_isBarred.2.1 4 = .ok (.getfield 558, 3)) lg_12_558 (by decide) (RC_0 hL).1) ?_
    rcases ite_some h with ⟨c1, h⟩ | ⟨c1, h⟩
    · refine ai (r_icmp_ge_t (pc := 7) (tgt := 60) (by decide +kernel : decode k_R_isBarred.2.1 7 = .ok (.if_icmp .ge (53), 3)) (by decide) c1) ?_
      refine ai (r_iconst (pc := 60) (by decide +kernel : decode k_R_isBarred.2.1 60 = .ok (.iconst 0, 1)) ic_0) ?_
      cases h
      exact ⟨r_zret (by decide) rfl (by decide +kernel : decode k_R_isBarred.2.1 61 = .ok (.ireturn, 1)), hL⟩
    · refine ai (r_icmp_ge_f (pc := 7) 60 (by decide +kernel : decode k_R_isBarred.2.1 7 = .ok (.if_icmp .ge (53), 3)) (by decide) c1) ?_
      refine ai (r_iconst (pc := 10) (by decide +kernel : decode k_R_isBarred.2.1 10 = .ok (.iconst 0, 1)) ic_0) ?_
      refine ai (e_istore_n (pc := 11) rfl (by decide +kernel : decode k_R_isBarred.2.1 11 = .ok (.istore_n 3, 1)) rfl (by decide) rfl) ?_
      exact (ai (r_sub [1, 2, 3, 0] rfl) (R_isBarred_12_run (fun _ _ _ _ _ q1 q3 => ih q1 q3) hL h))
set_option maxRecDepth 100000 in
set_option maxHeartbeats 4000000 in
theorem R_isBarred_run {x1 : Int32} {m m' : Mem} {r : Int32} (hL : RL m) (h : R_isBarred x1 m = some (r, m')) : Run k_R_isBarred 0 [(0, .ref 0), (1, .int x1)] [] m (some (.int r)) m' ∧ RL m' := by
  unfold R_isBarred at h
  refine ai (r_iconst (pc := 0) (by decide +kernel : decode k_R_isBarred.2.1 0 = .ok (.iconst 0, 1)) ic_0) ?_
  refine ai (e_istore_n (pc := 1) rfl (by decide +kernel : decode k_R_isBarred.2.1 1 = .ok (.istore_n 2, 1)) rfl (by decide) rfl) ?_
  exact (ai (r_sub [1, 2, 0] rfl) (R_isBarred_2_run hL h))
set_option maxRecDepth 100000 in
set_option maxHeartbeats 4000000 in
theorem R_worthBy_249_run {k87 : Int32 → Int32 → Int32 → Int32 → Mem → Option (Int32 × Mem)} {x3 : Int32} {x6 : Int32} {x7 : Int32} {x8 : Int32} {m m' : Mem} {r : Int32} (hk87 : ∀ (x3 : Int32) (x6 : Int32) (x7 : Int32) (x8 : Int32) (m : Mem) (r : Int32) (m' : Mem), RL m → k87 x3 x6 x7 x8 m = some (r, m') → Run k_R_worthBy 87 [(0, .ref 0), (3, .int x3), (6, .int x6), (7, .int x7), (8, .int x8)] [] m (some (.int r)) m' ∧ RL m') (hL : RL m) (h : R_worthBy_249 k87 x3 x6 x7 x8 m = some (r, m')) : Run k_R_worthBy 249 [(0, .ref 0), (3, .int x3), (6, .int x6), (7, .int x7), (8, .int x8)] [] m (some (.int r)) m' ∧ RL m' := by
  unfold R_worthBy_249 at h
  obtain ⟨v1, hv1, h⟩ := vb_some h
  refine ai (e_iinc (pc := 249) (k := 4) hv1 ic_1 (by decide +kernel : decode k_R_worthBy.2.1 249 = .ok (.iinc 8 (1), 3)) rfl (by decide) rfl) ?_
  refine ai (r_goto (pc := 252) (tgt := 87) (by decide +kernel : decode k_R_worthBy.2.1 252 = .ok (.goto (-165), 3)) (by decide)) ?_
  exact (ai (r_sub [1, 2, 3, 4, 0] rfl) (hk87 x3 x6 x7 v1 m _ _ hL h))
set_option maxRecDepth 100000 in
set_option maxHeartbeats 4000000 in
theorem R_worthBy_212_run {k87 : Int32 → Int32 → Int32 → Int32 → Mem → Option (Int32 × Mem)} {x3 : Int32} {x6 : Int32} {x7 : Int32} {x8 : Int32} {x9 : Int32} {m m' : Mem} {r : Int32} (hk87 : ∀ (x3 : Int32) (x6 : Int32) (x7 : Int32) (x8 : Int32) (m : Mem) (r : Int32) (m' : Mem), RL m → k87 x3 x6 x7 x8 m = some (r, m') → Run k_R_worthBy 87 [(0, .ref 0), (3, .int x3), (6, .int x6), (7, .int x7), (8, .int x8)] [] m (some (.int r)) m' ∧ RL m') (hL : RL m) (h : R_worthBy_212 k87 x3 x6 x7 x8 x9 m = some (r, m')) : Run k_R_worthBy 212 [(0, .ref 0), (3, .int x3), (6, .int x6), (7, .int x7), (8, .int x8), (9, .int x9)] [] m (some (.int r)) m' ∧ RL m' := by
  unfold R_worthBy_212 at h
  refine ai (p_aload_n (pc := 212) (k := 0) (by decide +kernel : decode k_R_worthBy.2.1 212 = .ok (.aload_n 0, 1)) rfl rfl) ?_
  refine ai (p_getr (pc := 213) (RR_1645_0 hL) (by decide +kernel : decode k_R_worthBy.2.1 213 = .ok (.getfield 239, 3)) lg_12_239 (RC_0 hL).1) ?_
  refine ai (p_aload_n (pc := 216) (k := 0) (by decide +kernel : decode k_R_worthBy.2.1 216 = .ok (.aload_n 0, 1)) rfl rfl) ?_
  refine ai (r_getI (pc := 217) (by decide +kernel : decode k_R_worthBy.2.1 217 = .ok (.getfield 558, 3)) lg_12_558 (by decide) (RC_0 hL).1) ?_
  refine ai (r_iload (pc := 220) (k := 5) (by decide +kernel : decode k_R_worthBy.2.1 220 = .ok (.iload 9, 2)) rfl) ?_
  obtain ⟨g1, h⟩ := gd_some h
  have c2 := (RC_71 hL).1
  have c3 := (RC_71 hL).2
  obtain ⟨m4, hm4, h⟩ := vb_some h
  have hL : RL m4 := by rw [hm4]; exact hL
  refine ai (p_iast (pc := 222) hm4 (by decide +kernel : decode k_R_worthBy.2.1 222 = .ok (.iastore, 1)) c2 c3 g1) ?_
  refine ai (p_aload_n (pc := 223) (k := 0) (by decide +kernel : decode k_R_worthBy.2.1 223 = .ok (.aload_n 0, 1)) rfl rfl) ?_
  refine ai (p_getr (pc := 224) (RR_1644_0 hL) (by decide +kernel : decode k_R_worthBy.2.1 224 = .ok (.getfield 236, 3)) lg_12_236 (RC_0 hL).1) ?_
  refine ai (p_aload_n (pc := 227) (k := 0) (by decide +kernel : decode k_R_worthBy.2.1 227 = .ok (.aload_n 0, 1)) rfl rfl) ?_
  refine ai (r_getI (pc := 228) (by decide +kernel : decode k_R_worthBy.2.1 228 = .ok (.getfield 558, 3)) lg_12_558 (by decide) (RC_0 hL).1) ?_
  refine ai (p_aload_n (pc := 231) (k := 0) (by decide +kernel : decode k_R_worthBy.2.1 231 = .ok (.aload_n 0, 1)) rfl rfl) ?_
  refine ai (p_getr (pc := 232) (RR_1563_0 hL) (by decide +kernel : decode k_R_worthBy.2.1 232 = .ok (.getfield 64, 3)) lg_12_64 (RC_0 hL).1) ?_
  refine ai (r_iload (pc := 235) (k := 5) (by decide +kernel : decode k_R_worthBy.2.1 235 = .ok (.iload 9, 2)) rfl) ?_
  obtain ⟨g5, h⟩ := gd_some h
  refine ai (p_iald (pc := 237) (by decide +kernel : decode k_R_worthBy.2.1 237 = .ok (.iaload, 1)) (RC_16 hL).1 (RC_16 hL).2 g5) ?_
  obtain ⟨g6, h⟩ := gd_some h
  have c7 := (RC_70 hL).1
  have c8 := (RC_70 hL).2
  obtain ⟨m9, hm9, h⟩ := vb_some h
  have hL : RL m9 := by rw [hm9]; exact hL
  refine ai (p_iast (pc := 238) hm9 (by decide +kernel : decode k_R_worthBy.2.1 238 = .ok (.iastore, 1)) c7 c8 g6) ?_
  refine ai (p_aload_n (pc := 239) (k := 0) (by decide +kernel : decode k_R_worthBy.2.1 239 = .ok (.aload_n 0, 1)) rfl rfl) ?_
  refine ai (r_dup (pc := 240) (by decide +kernel : decode k_R_worthBy.2.1 240 = .ok (.dup, 1)) (rfl)) ?_
  refine ai (r_getI (pc := 241) (by decide +kernel : decode k_R_worthBy.2.1 241 = .ok (.getfield 558, 3)) lg_12_558 (by decide) (RC_0 hL).1) ?_
  refine ai (r_iconst (pc := 244) (by decide +kernel : decode k_R_worthBy.2.1 244 = .ok (.iconst 1, 1)) ic_1) ?_
  refine ai (r_iadd (pc := 245) (by decide +kernel : decode k_R_worthBy.2.1 245 = .ok (.iadd, 1))) ?_
  have c10 := (RC_0 hL).1
  obtain ⟨m11, hm11, h⟩ := vb_some h
  have hL : RL m11 := by rw [hm11]; exact hL
  refine ai (p_putI (pc := 246) hm11 (by decide +kernel : decode k_R_worthBy.2.1 246 = .ok (.putfield 558, 3)) lp_12_558 c10) ?_
  exact (ai (r_sub [0, 1, 2, 3, 4] rfl) (R_worthBy_249_run hk87 hL h))
set_option maxRecDepth 100000 in
set_option maxHeartbeats 4000000 in
theorem R_worthBy_255_run {x6 : Int32} {x7 : Int32} {m m' : Mem} {r : Int32} (hL : RL m) (h : R_worthBy_255 x6 x7 m = some (r, m')) : Run k_R_worthBy 255 [(0, .ref 0), (6, .int x6), (7, .int x7)] [] m (some (.int r)) m' ∧ RL m' := by
  unfold R_worthBy_255 at h
  refine ai (p_aload_n (pc := 255) (k := 0) (by decide +kernel : decode k_R_worthBy.2.1 255 = .ok (.aload_n 0, 1)) rfl rfl) ?_
  refine ai (r_getI (pc := 256) (by decide +kernel : decode k_R_worthBy.2.1 256 = .ok (.getfield 561, 3)) lg_12_561 (by decide) (RC_0 hL).1) ?_
  refine ai (r_iload (pc := 259) (k := 1) (by decide +kernel : decode k_R_worthBy.2.1 259 = .ok (.iload 6, 2)) rfl) ?_
  refine ai (r_iconst (pc := 261) (by decide +kernel : decode k_R_worthBy.2.1 261 = .ok (.iconst 0, 1)) ic_0) ?_
  refine ai (r_sipush (pc := 262) (by decide +kernel : decode k_R_worthBy.2.1 262 = .ok (.sipush (1000), 3)) (by decide : _ = (1000 : Int32))) ?_
  obtain ⟨r1, hr1, h⟩ := bp_some h
  refine ai (q_callS (pc := 265) (As := [.int x6, .int 0, .int 1000]) (st := [.int (mI m 1642 0)]) (st2 := [.int r1, .int (mI m 1642 0)]) rfl rfl (by decide +kernel : decode k_R_worthBy.2.1 265 = .ok (.invokestatic 518, 3)) lc_12_518 mo_R_held ⟨Nat.le_of_ble_eq_true rfl, Nat.le_of_ble_eq_true rfl⟩ (Nat.le_of_ble_eq_true rfl) (Nat.le_of_ble_eq_true rfl) (R_held_run hr1)) ?_
  refine ai (r_imul (pc := 268) (by decide +kernel : decode k_R_worthBy.2.1 268 = .ok (.imul, 1))) ?_
  refine ai (r_sipush (pc := 269) (by decide +kernel : decode k_R_worthBy.2.1 269 = .ok (.sipush (200), 3)) (by decide : _ = (200 : Int32))) ?_
  refine ai (r_iload (pc := 272) (k := 2) (by decide +kernel : decode k_R_worthBy.2.1 272 = .ok (.iload 7, 2)) rfl) ?_
  refine ai (r_iconst (pc := 274) (by decide +kernel : decode k_R_worthBy.2.1 274 = .ok (.iconst 0, 1)) ic_0) ?_
  refine ai (r_sipush (pc := 275) (by decide +kernel : decode k_R_worthBy.2.1 275 = .ok (.sipush (9999), 3)) (by decide : _ = (9999 : Int32))) ?_
  obtain ⟨r2, hr2, h⟩ := bp_some h
  refine ai (q_callS (pc := 278) (As := [.int x7, .int 0, .int 9999]) (st := [.int 200, .int ((mI m 1642 0) * r1)]) (st2 := [.int r2, .int 200, .int ((mI m 1642 0) * r1)]) rfl rfl (by decide +kernel : decode k_R_worthBy.2.1 278 = .ok (.invokestatic 518, 3)) lc_12_518 mo_R_held ⟨Nat.le_of_ble_eq_true rfl, Nat.le_of_ble_eq_true rfl⟩ (Nat.le_of_ble_eq_true rfl) (Nat.le_of_ble_eq_true rfl) (R_held_run hr2)) ?_
  refine ai (r_imul (pc := 281) (by decide +kernel : decode k_R_worthBy.2.1 281 = .ok (.imul, 1))) ?_
  refine ai (r_iadd (pc := 282) (by decide +kernel : decode k_R_worthBy.2.1 282 = .ok (.iadd, 1))) ?_
  cases h
  exact ⟨r_iret rfl (by decide +kernel : decode k_R_worthBy.2.1 283 = .ok (.ireturn, 1)), hL⟩
set_option maxRecDepth 100000 in
set_option maxHeartbeats 4000000 in
theorem R_worthBy_87_run {n : Nat} {x3 : Int32} {x6 : Int32} {x7 : Int32} {x8 : Int32} {m m' : Mem} {r : Int32} (hL : RL m) (h : R_worthBy_87 n x3 x6 x7 x8 m = some (r, m')) : Run k_R_worthBy 87 [(0, .ref 0), (3, .int x3), (6, .int x6), (7, .int x7), (8, .int x8)] [] m (some (.int r)) m' ∧ RL m' := by
  induction n generalizing x3 x6 x7 x8 m r m' with
  | zero => exact absurd h (by simp [R_worthBy_87])
  | succ n ih =>
    rw [R_worthBy_87.eq_2] at h
    refine ai (r_iload (pc := 87) (k := 4) (by decide +kernel : decode k_R_worthBy.2.1 87 = .ok (.iload 8, 2)) rfl) ?_
    refine ai (r_bipush (pc := 89) (by decide +kernel : decode k_R_worthBy.2.1 89 = .ok (.bipush (64), 2)) (by decide : _ = (64 : Int32))) ?_
    refine ai (r_iload_n (pc := 91) (k := 1) (by decide +kernel : decode k_R_worthBy.2.1 91 = .ok (.iload_n 3, 1)) rfl rfl) ?_
    refine ai (r_imul (pc := 92) (by decide +kernel : decode k_R_worthBy.2.1 92 = .ok (.imul, 1))) ?_
    refine ai (p_aload_n (pc := 93) (k := 0) (by decide +kernel : decode k_R_worthBy.2.1 93 = .ok (.aload_n 0, 1)) rfl rfl) ?_
    refine ai (p_getr (pc := 94) (RR_1616_0 hL) (by decide +kernel : decode k_R_worthBy.2.1 94 = .ok (.getfield 179, 3)) lg_12_179 (RC_0 hL).1) ?_
    refine ai (r_iload_n (pc := 97) (k := 1) (by decide +kernel : decode k_R_worthBy.2.1 97 = .ok (.iload_n 3, 1)) rfl rfl) ?_
    obtain ⟨g1, h⟩ := gd_some h
    refine ai (p_iald (pc := 98) (by decide +kernel : decode k_R_worthBy.2.1 98 = .ok (.iaload, 1)) (RC_53 hL).1 (RC_53 hL).2 g1) ?_
    refine ai (r_iadd (pc := 99) (by decide +kernel : decode k_R_worthBy.2.1 99 = .ok (.iadd, 1))) ?_
    rcases ite_some h with ⟨c2, h⟩ | ⟨c2, h⟩
    · refine ai (r_icmp_ge_t (pc := 100) (tgt := 255) (by decide +kernel : decode k_R_worthBy.2.1 100 = .ok (.if_icmp .ge (155), 3)) (by decide) c2) ?_
      exact (ai (r_sub [0, 2, 3] rfl) (R_worthBy_255_run hL h))
    · refine ai (r_icmp_ge_f (pc := 100) 255 (by decide +kernel : decode k_R_worthBy.2.1 100 = .ok (.if_icmp .ge (155), 3)) (by decide) c2) ?_
      refine ai (p_aload_n (pc := 103) (k := 0) (by decide +kernel : decode k_R_worthBy.2.1 103 = .ok (.aload_n 0, 1)) rfl rfl) ?_
      refine ai (p_getr (pc := 104) (RR_1617_0 hL) (by decide +kernel : decode k_R_worthBy.2.1 104 = .ok (.getfield 182, 3)) lg_12_182 (RC_0 hL).1) ?_
      refine ai (r_iload (pc := 107) (k := 4) (by decide +kernel : decode k_R_worthBy.2.1 107 = .ok (.iload 8, 2)) rfl) ?_
      obtain ⟨g3, h⟩ := gd_some h
      refine ai (p_iald (pc := 109) (by decide +kernel : decode k_R_worthBy.2.1 109 = .ok (.iaload, 1)) (RC_54 hL).1 (RC_54 hL).2 g3) ?_
      obtain ⟨v4, hv4, h⟩ := vb_some h
      refine ai (e_istore (pc := 110) hv4 (by decide +kernel : decode k_R_worthBy.2.1 110 = .ok (.istore 9, 2)) (by decide) rfl) ?_
      refine ai (p_aload_n (pc := 112) (k := 1) (by decide +kernel : decode k_R_worthBy.2.1 112 = .ok (.aload_n 0, 1)) rfl rfl) ?_
      refine ai (p_getr (pc := 113) (RR_1562_0 hL) (by decide +kernel : decode k_R_worthBy.2.1 113 = .ok (.getfield 61, 3)) lg_12_61 (RC_0 hL).1) ?_
      refine ai (r_iload (pc := 116) (k := 0) (by decide +kernel : decode k_R_worthBy.2.1 116 = .ok (.iload 9, 2)) rfl) ?_
      obtain ⟨g5, h⟩ := gd_some h
      refine ai (p_iald (pc := 118) (by decide +kernel : decode k_R_worthBy.2.1 118 = .ok (.iaload, 1)) (RC_15 hL).1 (RC_15 hL).2 g5) ?_
      refine ai (r_iconst (pc := 119) (by decide +kernel : decode k_R_worthBy.2.1 119 = .ok (.iconst 2, 1)) ic_2) ?_
      rcases ite_some h with ⟨c6, h⟩ | ⟨c6, h⟩
      · refine ai (r_icmp_eq_t (pc := 120) (tgt := 249) (by decide +kernel : decode k_R_worthBy.2.1 120 = .ok (.if_icmp .eq (129), 3)) (by decide) c6) ?_
        exact (ai (r_sub [1, 2, 3, 4, 5] rfl) (R_worthBy_249_run (fun _ _ _ _ _ _ _ q1 q3 => ih q1 q3) hL h))
      · refine ai (r_icmp_eq_f (pc := 120) 249 (by decide +kernel : decode k_R_worthBy.2.1 120 = .ok (.if_icmp .eq (129), 3)) (by decide) c6) ?_
        refine ai (p_aload_n (pc := 123) (k := 1) (by decide +kernel : decode k_R_worthBy.2.1 123 = .ok (.aload_n 0, 1)) rfl rfl) ?_
        refine ai (p_aload_n (pc := 124) (k := 1) (by decide +kernel : decode k_R_worthBy.2.1 124 = .ok (.aload_n 0, 1)) rfl rfl) ?_
        refine ai (p_getr (pc := 125) (RR_1563_0 hL) (by decide +kernel : decode k_R_worthBy.2.1 125 = .ok (.getfield 64, 3)) lg_12_64 (RC_0 hL).1) ?_
        refine ai (r_iload (pc := 128) (k := 0) (by decide +kernel : decode k_R_worthBy.2.1 128 = .ok (.iload 9, 2)) rfl) ?_
        obtain ⟨g7, h⟩ := gd_some h
        refine ai (p_iald (pc := 130) (by decide +kernel : decode k_R_worthBy.2.1 130 = .ok (.iaload, 1)) (RC_16 hL).1 (RC_16 hL).2 g7) ?_
        obtain ⟨r8, m9, hr8, h⟩ := bn_some h
        have q10 := R_isBarred_run hL hr8
        have c11 := (RC_0 hL).1
        have hL := q10.2
        refine ai (q_callV (pc := 131) (As := [.int (aI m 16 (ix v4))]) (st := []) (st2 := [.int r8]) (b := 0) rfl rfl (by decide +kernel : decode k_R_worthBy.2.1 131 = .ok (.invokevirtual 567, 3)) lc_12_567 mo_R_isBarred ⟨Nat.le_of_ble_eq_true rfl, Nat.le_of_ble_eq_true rfl⟩ (Nat.le_of_ble_eq_true rfl) (Nat.le_of_ble_eq_true rfl) c11 q10.1) ?_
        rcases ite_some h with ⟨c12, h⟩ | ⟨c12, h⟩
        · refine ai (r_if_ne_f (pc := 134) 249 (by decide +kernel : decode k_R_worthBy.2.1 134 = .ok (.ifCond .ne (115), 3)) (by decide) c12) ?_
          refine ai (p_aload_n (pc := 137) (k := 1) (by decide +kernel : decode k_R_worthBy.2.1 137 = .ok (.aload_n 0, 1)) rfl rfl) ?_
          refine ai (r_iload (pc := 138) (k := 0) (by decide +kernel : decode k_R_worthBy.2.1 138 = .ok (.iload 9, 2)) rfl) ?_
          obtain ⟨r13, m14, hr13, h⟩ := bn_some h
          have q15 := R_holds_run hL hr13
          have c16 := (RC_0 hL).1
          have hL := q15.2
          refine ai (q_callV (pc := 140) (As := [.int v4]) (st := []) (st2 := [.int r13]) (b := 0) rfl rfl (by decide +kernel : decode k_R_worthBy.2.1 140 = .ok (.invokevirtual 546, 3)) lc_12_546 mo_R_holds ⟨Nat.le_of_ble_eq_true rfl, Nat.le_of_ble_eq_true rfl⟩ (Nat.le_of_ble_eq_true rfl) (Nat.le_of_ble_eq_true rfl) c16 q15.1) ?_
          rcases ite_some h with ⟨c17, h⟩ | ⟨c17, h⟩
          · refine ai (r_if_ne_f (pc := 143) 149 (by decide +kernel : decode k_R_worthBy.2.1 143 = .ok (.ifCond .ne (6), 3)) (by decide) c17) ?_
            refine ai (r_goto (pc := 146) (tgt := 249) (by decide +kernel : decode k_R_worthBy.2.1 146 = .ok (.goto (103), 3)) (by decide)) ?_
            exact (ai (r_sub [1, 2, 3, 4, 5] rfl) (R_worthBy_249_run (fun _ _ _ _ _ _ _ q1 q3 => ih q1 q3) hL h))
          · refine ai (r_if_ne_t (pc := 143) (tgt := 149) (by decide +kernel : decode k_R_worthBy.2.1 143 = .ok (.ifCond .ne (6), 3)) (by decide) c17) ?_
            refine ai (p_aload_n (pc := 149) (k := 1) (by decide +kernel : decode k_R_worthBy.2.1 149 = .ok (.aload_n 0, 1)) rfl rfl) ?_
            refine ai (p_aload_n (pc := 150) (k := 1) (by decide +kernel : decode k_R_worthBy.2.1 150 = .ok (.aload_n 0, 1)) rfl rfl) ?_
            refine ai (p_getr (pc := 151) (RR_1568_0 hL) (by decide +kernel : decode k_R_worthBy.2.1 151 = .ok (.getfield 80, 3)) lg_12_80 (RC_0 hL).1) ?_
            refine ai (r_iload (pc := 154) (k := 0) (by decide +kernel : decode k_R_worthBy.2.1 154 = .ok (.iload 9, 2)) rfl) ?_
            obtain ⟨g18, h⟩ := gd_some h
            refine ai (p_iald (pc := 156) (by decide +kernel : decode k_R_worthBy.2.1 156 = .ok (.iaload, 1)) (RC_21 hL).1 (RC_21 hL).2 g18) ?_
            refine ai (p_aload_n (pc := 157) (k := 1) (by decide +kernel : decode k_R_worthBy.2.1 157 = .ok (.aload_n 0, 1)) rfl rfl) ?_
            refine ai (p_getr (pc := 158) (RR_1569_0 hL) (by decide +kernel : decode k_R_worthBy.2.1 158 = .ok (.getfield 83, 3)) lg_12_83 (RC_0 hL).1) ?_
            refine ai (r_iload (pc := 161) (k := 0) (by decide +kernel : decode k_R_worthBy.2.1 161 = .ok (.iload 9, 2)) rfl) ?_
            obtain ⟨g19, h⟩ := gd_some h
            refine ai (p_iald (pc := 163) (by decide +kernel : decode k_R_worthBy.2.1 163 = .ok (.iaload, 1)) (RC_22 hL).1 (RC_22 hL).2 g19) ?_
            obtain ⟨r20, m21, hr20, h⟩ := bn_some h
            have q22 := R_termOf_run hL hr20
            have c23 := (RC_0 hL).1
            have hL := q22.2
            refine ai (q_callV (pc := 164) (As := [.int (aI m14 21 (ix v4)), .int (aI m14 22 (ix v4))]) (st := []) (st2 := [.int r20]) (b := 0) rfl rfl (by decide +kernel : decode k_R_worthBy.2.1 164 = .ok (.invokevirtual 471, 3)) lc_12_471 mo_R_termOf ⟨Nat.le_of_ble_eq_true rfl, Nat.le_of_ble_eq_true rfl⟩ (Nat.le_of_ble_eq_true rfl) (Nat.le_of_ble_eq_true rfl) c23 q22.1) ?_
            refine ai (e_istore (pc := 167) rfl (by decide +kernel : decode k_R_worthBy.2.1 167 = .ok (.istore 10, 2)) (by decide) rfl) ?_
            refine ai (p_aload_n (pc := 169) (k := 2) (by decide +kernel : decode k_R_worthBy.2.1 169 = .ok (.aload_n 0, 1)) rfl rfl) ?_
            refine ai (p_getr (pc := 170) (RR_1562_0 hL) (by decide +kernel : decode k_R_worthBy.2.1 170 = .ok (.getfield 61, 3)) lg_12_61 (RC_0 hL).1) ?_
            refine ai (r_iload (pc := 173) (k := 1) (by decide +kernel : decode k_R_worthBy.2.1 173 = .ok (.iload 9, 2)) rfl) ?_
            obtain ⟨g24, h⟩ := gd_some h
            refine ai (p_iald (pc := 175) (by decide +kernel : decode k_R_worthBy.2.1 175 = .ok (.iaload, 1)) (RC_15 hL).1 (RC_15 hL).2 g24) ?_
            refine ai (r_iconst (pc := 176) (by decide +kernel : decode k_R_worthBy.2.1 176 = .ok (.iconst 4, 1)) ic_4) ?_
            rcases ite_some h with ⟨c25, h⟩ | ⟨c25, h⟩
            · refine ai (r_icmp_ne_f (pc := 177) 198 (by decide +kernel : decode k_R_worthBy.2.1 177 = .ok (.if_icmp .ne (21), 3)) (by decide) c25) ?_
              refine ai (r_iload (pc := 180) (k := 4) (by decide +kernel : decode k_R_worthBy.2.1 180 = .ok (.iload 6, 2)) rfl) ?_
              refine ai (r_iload (pc := 182) (k := 0) (by decide +kernel : decode k_R_worthBy.2.1 182 = .ok (.iload 10, 2)) rfl) ?_
              refine ai (r_bipush (pc := 184) (by decide +kernel : decode k_R_worthBy.2.1 184 = .ok (.bipush (-100), 2)) (by decide : _ = (-100 : Int32))) ?_
              refine ai (r_sipush (pc := 186) (by decide +kernel : decode k_R_worthBy.2.1 186 = .ok (.sipush (400), 3)) (by decide : _ = (400 : Int32))) ?_
              obtain ⟨r26, hr26, h⟩ := bp_some h
              refine ai (q_callS (pc := 189) (As := [.int r20, .int (-100), .int 400]) (st := [.int x6]) (st2 := [.int r26, .int x6]) rfl rfl (by decide +kernel : decode k_R_worthBy.2.1 189 = .ok (.invokestatic 518, 3)) lc_12_518 mo_R_held ⟨Nat.le_of_ble_eq_true rfl, Nat.le_of_ble_eq_true rfl⟩ (Nat.le_of_ble_eq_true rfl) (Nat.le_of_ble_eq_true rfl) (R_held_run hr26)) ?_
              refine ai (r_iadd (pc := 192) (by decide +kernel : decode k_R_worthBy.2.1 192 = .ok (.iadd, 1))) ?_
              obtain ⟨v27, hv27, h⟩ := vb_some h
              refine ai (e_istore (pc := 193) hv27 (by decide +kernel : decode k_R_worthBy.2.1 193 = .ok (.istore 6, 2)) (by decide) rfl) ?_
              refine ai (r_goto (pc := 195) (tgt := 212) (by decide +kernel : decode k_R_worthBy.2.1 195 = .ok (.goto (17), 3)) (by decide)) ?_
              exact (ai (r_sub [3, 4, 0, 5, 6, 2] rfl) (R_worthBy_212_run (fun _ _ _ _ _ _ _ q1 q3 => ih q1 q3) hL h))
            · refine ai (r_icmp_ne_t (pc := 177) (tgt := 198) (by decide +kernel : decode k_R_worthBy.2.1 177 = .ok (.if_icmp .ne (21), 3)) (by decide) c25) ?_
              refine ai (r_iload (pc := 198) (k := 5) (by decide +kernel : decode k_R_worthBy.2.1 198 = .ok (.iload 7, 2)) rfl) ?_
              refine ai (r_iload (pc := 200) (k := 0) (by decide +kernel : decode k_R_worthBy.2.1 200 = .ok (.iload 10, 2)) rfl) ?_
              refine ai (r_iconst (pc := 202) (by decide +kernel : decode k_R_worthBy.2.1 202 = .ok (.iconst 0, 1)) ic_0) ?_
              refine ai (r_sipush (pc := 203) (by decide +kernel : decode k_R_worthBy.2.1 203 = .ok (.sipush (999), 3)) (by decide : _ = (999 : Int32))) ?_
              obtain ⟨r28, hr28, h⟩ := bp_some h
              refine ai (q_callS (pc := 206) (As := [.int r20, .int 0, .int 999]) (st := [.int x7]) (st2 := [.int r28, .int x7]) rfl rfl (by decide +kernel : decode k_R_worthBy.2.1 206 = .ok (.invokestatic 518, 3)) lc_12_518 mo_R_held ⟨Nat.le_of_ble_eq_true rfl, Nat.le_of_ble_eq_true rfl⟩ (Nat.le_of_ble_eq_true rfl) (Nat.le_of_ble_eq_true rfl) (R_held_run hr28)) ?_
              refine ai (r_iadd (pc := 209) (by decide +kernel : decode k_R_worthBy.2.1 209 = .ok (.iadd, 1))) ?_
              obtain ⟨v29, hv29, h⟩ := vb_some h
              refine ai (e_istore (pc := 210) hv29 (by decide +kernel : decode k_R_worthBy.2.1 210 = .ok (.istore 7, 2)) (by decide) rfl) ?_
              exact (ai (r_sub [3, 4, 5, 0, 6, 2] rfl) (R_worthBy_212_run (fun _ _ _ _ _ _ _ q1 q3 => ih q1 q3) hL h))
        · refine ai (r_if_ne_t (pc := 134) (tgt := 249) (by decide +kernel : decode k_R_worthBy.2.1 134 = .ok (.ifCond .ne (115), 3)) (by decide) c12) ?_
          exact (ai (r_sub [1, 2, 3, 4, 5] rfl) (R_worthBy_249_run (fun _ _ _ _ _ _ _ q1 q3 => ih q1 q3) hL h))
set_option maxRecDepth 100000 in
set_option maxHeartbeats 4000000 in
theorem R_worthBy_63_run {x3 : Int32} {m m' : Mem} {r : Int32} (hL : RL m) (h : R_worthBy_63 x3 m = some (r, m')) : Run k_R_worthBy 63 [(0, .ref 0), (3, .int x3)] [] m (some (.int r)) m' ∧ RL m' := by
  unfold R_worthBy_63 at h
  refine ai (p_aload_n (pc := 63) (k := 0) (by decide +kernel : decode k_R_worthBy.2.1 63 = .ok (.aload_n 0, 1)) rfl rfl) ?_
  refine ai (p_getr (pc := 64) (RR_1608_0 hL) (by decide +kernel : decode k_R_worthBy.2.1 64 = .ok (.getfield 167, 3)) lg_12_167 (RC_0 hL).1) ?_
  refine ai (r_bipush (pc := 67) (by decide +kernel : decode k_R_worthBy.2.1 67 = .ok (.bipush (11), 2)) (by decide : _ = (11 : Int32))) ?_
  refine ai (p_aload_n (pc := 69) (k := 0) (by decide +kernel : decode k_R_worthBy.2.1 69 = .ok (.aload_n 0, 1)) rfl rfl) ?_
  refine ai (r_getI (pc := 70) (by decide +kernel : decode k_R_worthBy.2.1 70 = .ok (.getfield 561, 3)) lg_12_561 (by decide) (RC_0 hL).1) ?_
  obtain ⟨g1, h⟩ := gd_some h
  have c2 := (RC_50 hL).1
  have c3 := (RC_50 hL).2
  obtain ⟨m4, hm4, h⟩ := vb_some h
  have hL : RL m4 := by rw [hm4]; exact hL
  refine ai (p_iast (pc := 73) hm4 (by decide +kernel : decode k_R_worthBy.2.1 73 = .ok (.iastore, 1)) c2 c3 g1) ?_
  refine ai (r_bipush (pc := 74) (by decide +kernel : decode k_R_worthBy.2.1 74 = .ok (.bipush (100), 2)) (by decide : _ = (100 : Int32))) ?_
  refine ai (e_istore (pc := 76) rfl (by decide +kernel : decode k_R_worthBy.2.1 76 = .ok (.istore 6, 2)) (by decide) rfl) ?_
  refine ai (r_iconst (pc := 78) (by decide +kernel : decode k_R_worthBy.2.1 78 = .ok (.iconst 0, 1)) ic_0) ?_
  refine ai (e_istore (pc := 79) rfl (by decide +kernel : decode k_R_worthBy.2.1 79 = .ok (.istore 7, 2)) (by decide) rfl) ?_
  refine ai (r_bipush (pc := 81) (by decide +kernel : decode k_R_worthBy.2.1 81 = .ok (.bipush (64), 2)) (by decide : _ = (64 : Int32))) ?_
  refine ai (r_iload_n (pc := 83) (k := 3) (by decide +kernel : decode k_R_worthBy.2.1 83 = .ok (.iload_n 3, 1)) rfl rfl) ?_
  refine ai (r_imul (pc := 84) (by decide +kernel : decode k_R_worthBy.2.1 84 = .ok (.imul, 1))) ?_
  obtain ⟨v5, hv5, h⟩ := vb_some h
  refine ai (e_istore (pc := 85) hv5 (by decide +kernel : decode k_R_worthBy.2.1 85 = .ok (.istore 8, 2)) (by decide) rfl) ?_
  exact (ai (r_sub [3, 4, 2, 1, 0] rfl) (R_worthBy_87_run hL h))
set_option maxRecDepth 100000 in
set_option maxHeartbeats 4000000 in
theorem R_worthBy_run {x1 : Int32} {x2 : Int32} {x3 : Int32} {x4 : Int32} {m m' : Mem} {r : Int32} (hL : RL m) (h : R_worthBy x1 x2 x3 x4 m = some (r, m')) : Run k_R_worthBy 0 [(0, .ref 0), (1, .int x1), (2, .int x2), (3, .int x3), (4, .int x4)] [] m (some (.int r)) m' ∧ RL m' := by
  unfold R_worthBy at h
  refine ai (p_aload_n (pc := 0) (k := 0) (by decide +kernel : decode k_R_worthBy.2.1 0 = .ok (.aload_n 0, 1)) rfl rfl) ?_
  refine ai (r_iconst (pc := 1) (by decide +kernel : decode k_R_worthBy.2.1 1 = .ok (.iconst 0, 1)) ic_0) ?_
  have c1 := (RC_0 hL).1
  obtain ⟨m2, hm2, h⟩ := vb_some h
  have hL : RL m2 := by rw [hm2]; exact hL
  refine ai (p_putI (pc := 2) hm2 (by decide +kernel : decode k_R_worthBy.2.1 2 = .ok (.putfield 558, 3)) lp_12_558 c1) ?_
  refine ai (p_aload_n (pc := 5) (k := 0) (by decide +kernel : decode k_R_worthBy.2.1 5 = .ok (.aload_n 0, 1)) rfl rfl) ?_
  refine ai (r_iconst (pc := 6) (by decide +kernel : decode k_R_worthBy.2.1 6 = .ok (.iconst 0, 1)) ic_0) ?_
  have c3 := (RC_0 hL).1
  obtain ⟨m4, hm4, h⟩ := vb_some h
  have hL : RL m4 := by rw [hm4]; exact hL
  refine ai (p_putI (pc := 7) hm4 (by decide +kernel : decode k_R_worthBy.2.1 7 = .ok (.putfield 561, 3)) lp_12_561 c3) ?_
  refine ai (r_iload (pc := 10) (k := 4) (by decide +kernel : decode k_R_worthBy.2.1 10 = .ok (.iload 4, 2)) rfl) ?_
  refine ai (r_iconst (pc := 12) (by decide +kernel : decode k_R_worthBy.2.1 12 = .ok (.iconst (-1), 1)) ic_m1) ?_
  rcases ite_some h with ⟨c5, h⟩ | ⟨c5, h⟩
  · refine ai (r_icmp_ne_f (pc := 13) 18 (by decide +kernel : decode k_R_worthBy.2.1 13 = .ok (.if_icmp .ne (5), 3)) (by decide) c5) ?_
    refine ai (r_iconst (pc := 16) (by decide +kernel : decode k_R_worthBy.2.1 16 = .ok (.iconst 0, 1)) ic_0) ?_
    cases h
    exact ⟨r_iret rfl (by decide +kernel : decode k_R_worthBy.2.1 17 = .ok (.ireturn, 1)), hL⟩
  · refine ai (r_icmp_ne_t (pc := 13) (tgt := 18) (by decide +kernel : decode k_R_worthBy.2.1 13 = .ok (.if_icmp .ne (5), 3)) (by decide) c5) ?_
    refine ai (p_aload_n (pc := 18) (k := 0) (by decide +kernel : decode k_R_worthBy.2.1 18 = .ok (.aload_n 0, 1)) rfl rfl) ?_
    refine ai (r_iload (pc := 19) (k := 4) (by decide +kernel : decode k_R_worthBy.2.1 19 = .ok (.iload 4, 2)) rfl) ?_
    refine ai (p_aload_n (pc := 21) (k := 0) (by decide +kernel : decode k_R_worthBy.2.1 21 = .ok (.aload_n 0, 1)) rfl rfl) ?_
    refine ai (p_getr (pc := 22) (RR_1598_0 hL) (by decide +kernel : decode k_R_worthBy.2.1 22 = .ok (.getfield 140, 3)) lg_12_140 (RC_0 hL).1) ?_
    refine ai (r_iload_n (pc := 25) (k := 1) (by decide +kernel : decode k_R_worthBy.2.1 25 = .ok (.iload_n 1, 1)) rfl rfl) ?_
    obtain ⟨g6, h⟩ := gd_some h
    refine ai (p_iald (pc := 26) (by decide +kernel : decode k_R_worthBy.2.1 26 = .ok (.iaload, 1)) (RC_41 hL).1 (RC_41 hL).2 g6) ?_
    obtain ⟨r7, m8, hr7, h⟩ := bn_some h
    have q9 := R_heldMargin_run hL hr7
    have c10 := (RC_0 hL).1
    have hL := q9.2
    refine ai (q_callV (pc := 27) (As := [.int x4, .int (aI m4 41 (ix x1))]) (st := []) (st2 := [.int r7]) (b := 0) rfl rfl (by decide +kernel : decode k_R_worthBy.2.1 27 = .ok (.invokevirtual 531, 3)) lc_12_531 mo_R_heldMargin ⟨Nat.le_of_ble_eq_true rfl, Nat.le_of_ble_eq_true rfl⟩ (Nat.le_of_ble_eq_true rfl) (Nat.le_of_ble_eq_true rfl) c10 q9.1) ?_
    refine ai (e_istore (pc := 30) rfl (by decide +kernel : decode k_R_worthBy.2.1 30 = .ok (.istore 5, 2)) (by decide) rfl) ?_
    refine ai (p_aload_n (pc := 32) (k := 1) (by decide +kernel : decode k_R_worthBy.2.1 32 = .ok (.aload_n 0, 1)) rfl rfl) ?_
    refine ai (r_iload_n (pc := 33) (k := 2) (by decide +kernel : decode k_R_worthBy.2.1 33 = .ok (.iload_n 1, 1)) rfl rfl) ?_
    refine ai (r_iload_n (pc := 34) (k := 3) (by decide +kernel : decode k_R_worthBy.2.1 34 = .ok (.iload_n 2, 1)) rfl rfl) ?_
    obtain ⟨r11, m12, hr11, h⟩ := bn_some h
    have q13 := R_asks_run hL hr11
    have c14 := (RC_0 hL).1
    have hL := q13.2
    refine ai (q_callV (pc := 35) (As := [.int x1, .int x2]) (st := []) (st2 := []) (b := 0) rfl rfl (by decide +kernel : decode k_R_worthBy.2.1 35 = .ok (.invokevirtual 564, 3)) lc_12_564 mo_R_asks ⟨Nat.le_of_ble_eq_true rfl, Nat.le_of_ble_eq_true rfl⟩ (Nat.le_of_ble_eq_true rfl) (Nat.le_of_ble_eq_true rfl) c14 q13.1) ?_
    refine ai (p_aload_n (pc := 38) (k := 1) (by decide +kernel : decode k_R_worthBy.2.1 38 = .ok (.aload_n 0, 1)) rfl rfl) ?_
    refine ai (p_aload_n (pc := 39) (k := 1) (by decide +kernel : decode k_R_worthBy.2.1 39 = .ok (.aload_n 0, 1)) rfl rfl) ?_
    refine ai (p_getr (pc := 40) (RR_1608_0 hL) (by decide +kernel : decode k_R_worthBy.2.1 40 = .ok (.getfield 167, 3)) lg_12_167 (RC_0 hL).1) ?_
    refine ai (r_iconst (pc := 43) (by decide +kernel : decode k_R_worthBy.2.1 43 = .ok (.iconst 0, 1)) ic_0) ?_
    obtain ⟨g15, h⟩ := gd_some h
    refine ai (p_iald (pc := 44) (by decide +kernel : decode k_R_worthBy.2.1 44 = .ok (.iaload, 1)) (RC_50 hL).1 (RC_50 hL).2 g15) ?_
    refine ai (r_iload (pc := 45) (k := 0) (by decide +kernel : decode k_R_worthBy.2.1 45 = .ok (.iload 5, 2)) rfl) ?_
    refine ai (r_iadd (pc := 47) (by decide +kernel : decode k_R_worthBy.2.1 47 = .ok (.iadd, 1))) ?_
    have c16 := (RC_0 hL).1
    obtain ⟨m17, hm17, h⟩ := vb_some h
    have hL : RL m17 := by rw [hm17]; exact hL
    refine ai (p_putI (pc := 48) hm17 (by decide +kernel : decode k_R_worthBy.2.1 48 = .ok (.putfield 561, 3)) lp_12_561 c16) ?_
    refine ai (p_aload_n (pc := 51) (k := 1) (by decide +kernel : decode k_R_worthBy.2.1 51 = .ok (.aload_n 0, 1)) rfl rfl) ?_
    refine ai (r_getI (pc := 52) (by decide +kernel : decode k_R_worthBy.2.1 52 = .ok (.getfield 561, 3)) lg_12_561 (by decide) (RC_0 hL).1) ?_
    rcases ite_some h with ⟨c18, h⟩ | ⟨c18, h⟩
    · refine ai (r_if_ge_t (pc := 55) (tgt := 63) (by decide +kernel : decode k_R_worthBy.2.1 55 = .ok (.ifCond .ge (8), 3)) (by decide) c18) ?_
      exact (ai (r_sub [1, 4] rfl) (R_worthBy_63_run hL h))
    · refine ai (r_if_ge_f (pc := 55) 63 (by decide +kernel : decode k_R_worthBy.2.1 55 = .ok (.ifCond .ge (8), 3)) (by decide) c18) ?_
      refine ai (p_aload_n (pc := 58) (k := 1) (by decide +kernel : decode k_R_worthBy.2.1 58 = .ok (.aload_n 0, 1)) rfl rfl) ?_
      refine ai (r_iconst (pc := 59) (by decide +kernel : decode k_R_worthBy.2.1 59 = .ok (.iconst 0, 1)) ic_0) ?_
      have c19 := (RC_0 hL).1
      obtain ⟨m20, hm20, h⟩ := vb_some h
      have hL : RL m20 := by rw [hm20]; exact hL
      refine ai (p_putI (pc := 60) hm20 (by decide +kernel : decode k_R_worthBy.2.1 60 = .ok (.putfield 561, 3)) lp_12_561 c19) ?_
      exact (ai (r_sub [1, 4] rfl) (R_worthBy_63_run hL h))
set_option maxRecDepth 100000 in
set_option maxHeartbeats 4000000 in
theorem R_looks_269_run {k125 : Int32 → Int32 → Int32 → Int32 → Mem → Option (Unit × Mem)} {x1 : Int32} {x4 : Int32} {x5 : Int32} {x6 : Int32} {m m' : Mem} {r : Unit} (hk125 : ∀ (x1 : Int32) (x4 : Int32) (x5 : Int32) (x6 : Int32) (m : Mem) (r : Unit) (m' : Mem), RL m → k125 x1 x4 x5 x6 m = some (r, m') → Run k_R_looks 125 [(0, .ref 0), (1, .int x1), (4, .int x4), (5, .int x5), (6, .int x6)] [] m none m' ∧ RL m') (hL : RL m) (h : R_looks_269 k125 x1 x4 x5 x6 m = some (r, m')) : Run k_R_looks 269 [(0, .ref 0), (1, .int x1), (4, .int x4), (5, .int x5), (6, .int x6)] [] m none m' ∧ RL m' := by
  unfold R_looks_269 at h
  obtain ⟨v1, hv1, h⟩ := vb_some h
  refine ai (e_iinc (pc := 269) (k := 4) hv1 ic_1 (by decide +kernel : decode k_R_looks.2.1 269 = .ok (.iinc 6 (1), 3)) rfl (by decide) rfl) ?_
  refine ai (r_goto (pc := 272) (tgt := 125) (by decide +kernel : decode k_R_looks.2.1 272 = .ok (.goto (-147), 3)) (by decide)) ?_
  exact (ai (r_sub [1, 2, 3, 4, 0] rfl) (hk125 x1 x4 x5 v1 m _ _ hL h))
set_option maxRecDepth 100000 in
set_option maxHeartbeats 4000000 in
theorem R_looks_346_run {k278 : Int32 → Int32 → Mem → Option (Unit × Mem)} {x1 : Int32} {x6 : Int32} {m m' : Mem} {r : Unit} (hk278 : ∀ (x1 : Int32) (x6 : Int32) (m : Mem) (r : Unit) (m' : Mem), RL m → k278 x1 x6 m = some (r, m') → Run k_R_looks 278 [(0, .ref 0), (1, .int x1), (6, .int x6)] [] m none m' ∧ RL m') (hL : RL m) (h : R_looks_346 k278 x1 x6 m = some (r, m')) : Run k_R_looks 346 [(0, .ref 0), (1, .int x1), (6, .int x6)] [] m none m' ∧ RL m' := by
  unfold R_looks_346 at h
  obtain ⟨v1, hv1, h⟩ := vb_some h
  refine ai (e_iinc (pc := 346) (k := 2) hv1 ic_1 (by decide +kernel : decode k_R_looks.2.1 346 = .ok (.iinc 6 (1), 3)) rfl (by decide) rfl) ?_
  refine ai (r_goto (pc := 349) (tgt := 278) (by decide +kernel : decode k_R_looks.2.1 349 = .ok (.goto (-71), 3)) (by decide)) ?_
  exact (ai (r_sub [1, 2, 0] rfl) (hk278 x1 v1 m _ _ hL h))
set_option maxRecDepth 100000 in
set_option maxHeartbeats 4000000 in
theorem R_looks_337_run {k278 : Int32 → Int32 → Mem → Option (Unit × Mem)} {x1 : Int32} {x6 : Int32} {s0 : Int32} {s1 : Int32} {m m' : Mem} {r : Unit} (hk278 : ∀ (x1 : Int32) (x6 : Int32) (m : Mem) (r : Unit) (m' : Mem), RL m → k278 x1 x6 m = some (r, m') → Run k_R_looks 278 [(0, .ref 0), (1, .int x1), (6, .int x6)] [] m none m' ∧ RL m') (hL : RL m) (h : R_looks_337 k278 x1 x6 s0 s1 m = some (r, m')) : Run k_R_looks 337 [(0, .ref 0), (1, .int x1), (6, .int x6)] [.int s0, .int s1, .ref 0] m none m' ∧ RL m' := by
  unfold R_looks_337 at h
  refine ai (p_aload_n (pc := 337) (k := 0) (by decide +kernel : decode k_R_looks.2.1 337 = .ok (.aload_n 0, 1)) rfl rfl) ?_
  refine ai (p_getr (pc := 338) (RR_1598_0 hL) (by decide +kernel : decode k_R_looks.2.1 338 = .ok (.getfield 140, 3)) lg_12_140 (RC_0 hL).1) ?_
  refine ai (r_iload_n (pc := 341) (k := 1) (by decide +kernel : decode k_R_looks.2.1 341 = .ok (.iload_n 1, 1)) rfl rfl) ?_
  obtain ⟨g1, h⟩ := gd_some h
  refine ai (p_iald (pc := 342) (by decide +kernel : decode k_R_looks.2.1 342 = .ok (.iaload, 1)) (RC_41 hL).1 (RC_41 hL).2 g1) ?_
  obtain ⟨r2, m3, hr2, h⟩ := bn_some h
  have q4 := R_classes_run hL hr2
  have c5 := (RC_0 hL).1
  have hL := q4.2
  refine ai (q_callV (pc := 343) (As := [.int s1, .int s0, .int (aI m 41 (ix x1))]) (st := []) (st2 := []) (b := 0) rfl rfl (by decide +kernel : decode k_R_looks.2.1 343 = .ok (.invokevirtual 591, 3)) lc_12_591 mo_R_classes ⟨Nat.le_of_ble_eq_true rfl, Nat.le_of_ble_eq_true rfl⟩ (Nat.le_of_ble_eq_true rfl) (Nat.le_of_ble_eq_true rfl) c5 q4.1) ?_
  exact (R_looks_346_run hk278 hL h)
set_option maxRecDepth 100000 in
set_option maxHeartbeats 4000000 in
theorem R_looks_318_run {k278 : Int32 → Int32 → Mem → Option (Unit × Mem)} {x1 : Int32} {x6 : Int32} {m m' : Mem} {r : Unit} (hk278 : ∀ (x1 : Int32) (x6 : Int32) (m : Mem) (r : Unit) (m' : Mem), RL m → k278 x1 x6 m = some (r, m') → Run k_R_looks 278 [(0, .ref 0), (1, .int x1), (6, .int x6)] [] m none m' ∧ RL m') (hL : RL m) (h : R_looks_318 k278 x1 x6 m = some (r, m')) : Run k_R_looks 318 [(0, .ref 0), (1, .int x1), (6, .int x6)] [] m none m' ∧ RL m' := by
  unfold R_looks_318 at h
  refine ai (p_aload_n (pc := 318) (k := 0) (by decide +kernel : decode k_R_looks.2.1 318 = .ok (.aload_n 0, 1)) rfl rfl) ?_
  refine ai (r_iload (pc := 319) (k := 2) (by decide +kernel : decode k_R_looks.2.1 319 = .ok (.iload 6, 2)) rfl) ?_
  refine ai (p_aload_n (pc := 321) (k := 0) (by decide +kernel : decode k_R_looks.2.1 321 = .ok (.aload_n 0, 1)) rfl rfl) ?_
  refine ai (p_getr (pc := 322) (RR_1555_0 hL) (by decide +kernel : decode k_R_looks.2.1 322 = .ok (.getfield 40, 3)) lg_12_40 (RC_0 hL).1) ?_
  refine ai (r_iload (pc := 325) (k := 2) (by decide +kernel : decode k_R_looks.2.1 325 = .ok (.iload 6, 2)) rfl) ?_
  obtain ⟨g1, h⟩ := gd_some h
  refine ai (p_iald (pc := 327) (by decide +kernel : decode k_R_looks.2.1 327 = .ok (.iaload, 1)) (RC_8 hL).1 (RC_8 hL).2 g1) ?_
  refine ai (r_iconst (pc := 328) (by decide +kernel : decode k_R_looks.2.1 328 = .ok (.iconst 3, 1)) ic_3) ?_
  rcases ite_some h with ⟨c2, h⟩ | ⟨c2, h⟩
  · refine ai (r_icmp_ne_f (pc := 329) 336 (by decide +kernel : decode k_R_looks.2.1 329 = .ok (.if_icmp .ne (7), 3)) (by decide) c2) ?_
    refine ai (r_iconst (pc := 332) (by decide +kernel : decode k_R_looks.2.1 332 = .ok (.iconst 1, 1)) ic_1) ?_
    refine ai (r_goto (pc := 333) (tgt := 337) (by decide +kernel : decode k_R_looks.2.1 333 = .ok (.goto (4), 3)) (by decide)) ?_
    exact (R_looks_337_run hk278 hL h)
  · refine ai (r_icmp_ne_t (pc := 329) (tgt := 336) (by decide +kernel : decode k_R_looks.2.1 329 = .ok (.if_icmp .ne (7), 3)) (by decide) c2) ?_
    refine ai (r_iconst (pc := 336) (by decide +kernel : decode k_R_looks.2.1 336 = .ok (.iconst 0, 1)) ic_0) ?_
    exact (R_looks_337_run hk278 hL h)
set_option maxRecDepth 100000 in
set_option maxHeartbeats 4000000 in
theorem R_looks_442_run {k355 : Int32 → Int32 → Mem → Option (Unit × Mem)} {x1 : Int32} {x6 : Int32} {m m' : Mem} {r : Unit} (hk355 : ∀ (x1 : Int32) (x6 : Int32) (m : Mem) (r : Unit) (m' : Mem), RL m → k355 x1 x6 m = some (r, m') → Run k_R_looks 355 [(0, .ref 0), (1, .int x1), (6, .int x6)] [] m none m' ∧ RL m') (hL : RL m) (h : R_looks_442 k355 x1 x6 m = some (r, m')) : Run k_R_looks 442 [(0, .ref 0), (1, .int x1), (6, .int x6)] [] m none m' ∧ RL m' := by
  unfold R_looks_442 at h
  obtain ⟨v1, hv1, h⟩ := vb_some h
  refine ai (e_iinc (pc := 442) (k := 2) hv1 ic_1 (by decide +kernel : decode k_R_looks.2.1 442 = .ok (.iinc 6 (1), 3)) rfl (by decide) rfl) ?_
  refine ai (r_goto (pc := 445) (tgt := 355) (by decide +kernel : decode k_R_looks.2.1 445 = .ok (.goto (-90), 3)) (by decide)) ?_
  exact (ai (r_sub [1, 2, 0] rfl) (hk355 x1 v1 m _ _ hL h))
set_option maxRecDepth 100000 in
set_option maxHeartbeats 4000000 in
theorem R_looks_355_run {n : Nat} {x1 : Int32} {x6 : Int32} {m m' : Mem} {r : Unit} (hL : RL m) (h : R_looks_355 n x1 x6 m = some (r, m')) : Run k_R_looks 355 [(0, .ref 0), (1, .int x1), (6, .int x6)] [] m none m' ∧ RL m' := by
  induction n generalizing x1 x6 m r m' with
  | zero => exact absurd h (by simp [R_looks_355])
  | succ n ih =>
    rw [R_looks_355.eq_2] at h
    refine ai (r_iload (pc := 355) (k := 2) (by decide +kernel : decode k_R_looks.2.1 355 = .ok (.iload 6, 2)) rfl) ?_
    refine ai (r_bipush (pc := 357) (by decide +kernel : decode k_R_looks.2.1 357 = .ok (.bipush (48), 2)) (by decide : _ = (48 : Int32))) ?_
    rcases ite_some h with ⟨c1, h⟩ | ⟨c1, h⟩
    · refine ai (r_icmp_ge_t (pc := 359) (tgt := 448) (by decide +kernel : decode k_R_looks.2.1 359 = .ok (.if_icmp .ge (89), 3)) (by decide) c1) ?_
      cases h
      exact ⟨r_vret rfl (by decide +kernel : decode k_R_looks.2.1 448 = .ok (.return_, 1)), hL⟩
    · refine ai (r_icmp_ge_f (pc := 359) 448 (by decide +kernel : decode k_R_looks.2.1 359 = .ok (.if_icmp .ge (89), 3)) (by decide) c1) ?_
      refine ai (p_aload_n (pc := 362) (k := 0) (by decide +kernel : decode k_R_looks.2.1 362 = .ok (.aload_n 0, 1)) rfl rfl) ?_
      refine ai (p_getr (pc := 363) (RR_1632_0 hL) (by decide +kernel : decode k_R_looks.2.1 363 = .ok (.getfield 212, 3)) lg_12_212 (RC_0 hL).1) ?_
      refine ai (r_iload (pc := 366) (k := 2) (by decide +kernel : decode k_R_looks.2.1 366 = .ok (.iload 6, 2)) rfl) ?_
      obtain ⟨g2, h⟩ := gd_some h
      refine ai (p_iald (pc := 368) (by decide +kernel : decode k_R_looks.2.1 368 = .ok (.iaload, 1)) (RC_62 hL).1 (RC_62 hL).2 g2) ?_
      rcases ite_some h with ⟨c3, h⟩ | ⟨c3, h⟩
      · refine ai (r_if_ge_t (pc := 369) (tgt := 375) (by decide +kernel : decode k_R_looks.2.1 369 = .ok (.ifCond .ge (6), 3)) (by decide) c3) ?_
        refine ai (p_aload_n (pc := 375) (k := 0) (by decide +kernel : decode k_R_looks.2.1 375 = .ok (.aload_n 0, 1)) rfl rfl) ?_
        refine ai (p_getr (pc := 376) (RR_1636_0 hL) (by decide +kernel : decode k_R_looks.2.1 376 = .ok (.getfield 224, 3)) lg_12_224 (RC_0 hL).1) ?_
        refine ai (r_iload (pc := 379) (k := 2) (by decide +kernel : decode k_R_looks.2.1 379 = .ok (.iload 6, 2)) rfl) ?_
        refine ai (p_aload_n (pc := 381) (k := 0) (by decide +kernel : decode k_R_looks.2.1 381 = .ok (.aload_n 0, 1)) rfl rfl) ?_
        refine ai (r_iload_n (pc := 382) (k := 1) (by decide +kernel : decode k_R_looks.2.1 382 = .ok (.iload_n 1, 1)) rfl rfl) ?_
        refine ai (r_iload (pc := 383) (k := 2) (by decide +kernel : decode k_R_looks.2.1 383 = .ok (.iload 6, 2)) rfl) ?_
        refine ai (p_aload_n (pc := 385) (k := 0) (by decide +kernel : decode k_R_looks.2.1 385 = .ok (.aload_n 0, 1)) rfl rfl) ?_
        refine ai (p_getr (pc := 386) (RR_1632_0 hL) (by decide +kernel : decode k_R_looks.2.1 386 = .ok (.getfield 212, 3)) lg_12_212 (RC_0 hL).1) ?_
        refine ai (r_iload (pc := 389) (k := 2) (by decide +kernel : decode k_R_looks.2.1 389 = .ok (.iload 6, 2)) rfl) ?_
        obtain ⟨g4, h⟩ := gd_some h
        refine ai (p_iald (pc := 391) (by decide +kernel : decode k_R_looks.2.1 391 = .ok (.iaload, 1)) (RC_62 hL).1 (RC_62 hL).2 g4) ?_
        refine ai (p_aload_n (pc := 392) (k := 0) (by decide +kernel : decode k_R_looks.2.1 392 = .ok (.aload_n 0, 1)) rfl rfl) ?_
        refine ai (p_getr (pc := 393) (RR_1633_0 hL) (by decide +kernel : decode k_R_looks.2.1 393 = .ok (.getfield 215, 3)) lg_12_215 (RC_0 hL).1) ?_
        refine ai (r_iload (pc := 396) (k := 2) (by decide +kernel : decode k_R_looks.2.1 396 = .ok (.iload 6, 2)) rfl) ?_
        obtain ⟨g5, h⟩ := gd_some h
        refine ai (p_iald (pc := 398) (by decide +kernel : decode k_R_looks.2.1 398 = .ok (.iaload, 1)) (RC_63 hL).1 (RC_63 hL).2 g5) ?_
        obtain ⟨r6, m7, hr6, h⟩ := bn_some h
        have q8 := R_worthBy_run hL hr6
        have c9 := (RC_0 hL).1
        have hL := q8.2
        refine ai (q_callV (pc := 399) (As := [.int x1, .int x6, .int (aI m 62 (ix x6)), .int (aI m 63 (ix x6))]) (st := [.int x6, .ref 66]) (st2 := [.int r6, .int x6, .ref 66]) (b := 0) rfl rfl (by decide +kernel : decode k_R_looks.2.1 399 = .ok (.invokevirtual 595, 3)) lc_12_595 mo_R_worthBy ⟨Nat.le_of_ble_eq_true rfl, Nat.le_of_ble_eq_true rfl⟩ (Nat.le_of_ble_eq_true rfl) (Nat.le_of_ble_eq_true rfl) c9 q8.1) ?_
        obtain ⟨g10, h⟩ := gd_some h
        have c11 := (RC_66 hL).1
        have c12 := (RC_66 hL).2
        obtain ⟨m13, hm13, h⟩ := vb_some h
        have hL : RL m13 := by rw [hm13]; exact hL
        refine ai (p_iast (pc := 402) hm13 (by decide +kernel : decode k_R_looks.2.1 402 = .ok (.iastore, 1)) c11 c12 g10) ?_
        refine ai (p_aload_n (pc := 403) (k := 0) (by decide +kernel : decode k_R_looks.2.1 403 = .ok (.aload_n 0, 1)) rfl rfl) ?_
        refine ai (p_getr (pc := 404) (RR_1634_0 hL) (by decide +kernel : decode k_R_looks.2.1 404 = .ok (.getfield 218, 3)) lg_12_218 (RC_0 hL).1) ?_
        refine ai (r_iload (pc := 407) (k := 2) (by decide +kernel : decode k_R_looks.2.1 407 = .ok (.iload 6, 2)) rfl) ?_
        obtain ⟨g14, h⟩ := gd_some h
        refine ai (p_iald (pc := 409) (by decide +kernel : decode k_R_looks.2.1 409 = .ok (.iaload, 1)) (RC_64 hL).1 (RC_64 hL).2 g14) ?_
        refine ai (r_iconst (pc := 410) (by decide +kernel : decode k_R_looks.2.1 410 = .ok (.iconst (-1), 1)) ic_m1) ?_
        rcases ite_some h with ⟨c15, h⟩ | ⟨c15, h⟩
        · refine ai (r_icmp_eq_t (pc := 411) (tgt := 442) (by decide +kernel : decode k_R_looks.2.1 411 = .ok (.if_icmp .eq (31), 3)) (by decide) c15) ?_
          exact (R_looks_442_run (fun _ _ _ _ _ q1 q3 => ih q1 q3) hL h)
        · refine ai (r_icmp_eq_f (pc := 411) 442 (by decide +kernel : decode k_R_looks.2.1 411 = .ok (.if_icmp .eq (31), 3)) (by decide) c15) ?_
          refine ai (p_aload_n (pc := 414) (k := 0) (by decide +kernel : decode k_R_looks.2.1 414 = .ok (.aload_n 0, 1)) rfl rfl) ?_
          refine ai (p_getr (pc := 415) (RR_1637_0 hL) (by decide +kernel : decode k_R_looks.2.1 415 = .ok (.getfield 227, 3)) lg_12_227 (RC_0 hL).1) ?_
          refine ai (r_iload (pc := 418) (k := 2) (by decide +kernel : decode k_R_looks.2.1 418 = .ok (.iload 6, 2)) rfl) ?_
          refine ai (p_aload_n (pc := 420) (k := 0) (by decide +kernel : decode k_R_looks.2.1 420 = .ok (.aload_n 0, 1)) rfl rfl) ?_
          refine ai (r_iload_n (pc := 421) (k := 1) (by decide +kernel : decode k_R_looks.2.1 421 = .ok (.iload_n 1, 1)) rfl rfl) ?_
          refine ai (r_iload (pc := 422) (k := 2) (by decide +kernel : decode k_R_looks.2.1 422 = .ok (.iload 6, 2)) rfl) ?_
          refine ai (p_aload_n (pc := 424) (k := 0) (by decide +kernel : decode k_R_looks.2.1 424 = .ok (.aload_n 0, 1)) rfl rfl) ?_
          refine ai (p_getr (pc := 425) (RR_1634_0 hL) (by decide +kernel : decode k_R_looks.2.1 425 = .ok (.getfield 218, 3)) lg_12_218 (RC_0 hL).1) ?_
          refine ai (r_iload (pc := 428) (k := 2) (by decide +kernel : decode k_R_looks.2.1 428 = .ok (.iload 6, 2)) rfl) ?_
          obtain ⟨g16, h⟩ := gd_some h
          refine ai (p_iald (pc := 430) (by decide +kernel : decode k_R_looks.2.1 430 = .ok (.iaload, 1)) (RC_64 hL).1 (RC_64 hL).2 g16) ?_
          refine ai (p_aload_n (pc := 431) (k := 0) (by decide +kernel : decode k_R_looks.2.1 431 = .ok (.aload_n 0, 1)) rfl rfl) ?_
          refine ai (p_getr (pc := 432) (RR_1635_0 hL) (by decide +kernel : decode k_R_looks.2.1 432 = .ok (.getfield 221, 3)) lg_12_221 (RC_0 hL).1) ?_
          refine ai (r_iload (pc := 435) (k := 2) (by decide +kernel : decode k_R_looks.2.1 435 = .ok (.iload 6, 2)) rfl) ?_
          obtain ⟨g17, h⟩ := gd_some h
          refine ai (p_iald (pc := 437) (by decide +kernel : decode k_R_looks.2.1 437 = .ok (.iaload, 1)) (RC_65 hL).1 (RC_65 hL).2 g17) ?_
          obtain ⟨r18, m19, hr18, h⟩ := bn_some h
          have q20 := R_worthBy_run hL hr18
          have c21 := (RC_0 hL).1
          have hL := q20.2
          refine ai (q_callV (pc := 438) (As := [.int x1, .int x6, .int (aI m13 64 (ix x6)), .int (aI m13 65 (ix x6))]) (st := [.int x6, .ref 67]) (st2 := [.int r18, .int x6, .ref 67]) (b := 0) rfl rfl (by decide +kernel : decode k_R_looks.2.1 438 = .ok (.invokevirtual 595, 3)) lc_12_595 mo_R_worthBy ⟨Nat.le_of_ble_eq_true rfl, Nat.le_of_ble_eq_true rfl⟩ (Nat.le_of_ble_eq_true rfl) (Nat.le_of_ble_eq_true rfl) c21 q20.1) ?_
          obtain ⟨g22, h⟩ := gd_some h
          have c23 := (RC_67 hL).1
          have c24 := (RC_67 hL).2
          obtain ⟨m25, hm25, h⟩ := vb_some h
          have hL : RL m25 := by rw [hm25]; exact hL
          refine ai (p_iast (pc := 441) hm25 (by decide +kernel : decode k_R_looks.2.1 441 = .ok (.iastore, 1)) c23 c24 g22) ?_
          exact (R_looks_442_run (fun _ _ _ _ _ q1 q3 => ih q1 q3) hL h)
      · refine ai (r_if_ge_f (pc := 369) 375 (by decide +kernel : decode k_R_looks.2.1 369 = .ok (.ifCond .ge (6), 3)) (by decide) c3) ?_
        refine ai (r_goto (pc := 372) (tgt := 442) (by decide +kernel : decode k_R_looks.2.1 372 = .ok (.goto (70), 3)) (by decide)) ?_
        exact (R_looks_442_run (fun _ _ _ _ _ q1 q3 => ih q1 q3) hL h)
set_option maxRecDepth 100000 in
set_option maxHeartbeats 4000000 in
theorem R_looks_352_run {x1 : Int32} {m m' : Mem} {r : Unit} (hL : RL m) (h : R_looks_352 x1 m = some (r, m')) : Run k_R_looks 352 [(0, .ref 0), (1, .int x1)] [] m none m' ∧ RL m' := by
  unfold R_looks_352 at h
  refine ai (r_iconst (pc := 352) (by decide +kernel : decode k_R_looks.2.1 352 = .ok (.iconst 0, 1)) ic_0) ?_
  refine ai (e_istore (pc := 353) rfl (by decide +kernel : decode k_R_looks.2.1 353 = .ok (.istore 6, 2)) (by decide) rfl) ?_
  exact (ai (r_sub [1, 2, 0] rfl) (R_looks_355_run hL h))
set_option maxRecDepth 100000 in
set_option maxHeartbeats 4000000 in
theorem R_looks_278_run {n : Nat} {x1 : Int32} {x6 : Int32} {m m' : Mem} {r : Unit} (hL : RL m) (h : R_looks_278 n x1 x6 m = some (r, m')) : Run k_R_looks 278 [(0, .ref 0), (1, .int x1), (6, .int x6)] [] m none m' ∧ RL m' := by
  induction n generalizing x1 x6 m r m' with
  | zero => exact absurd h (by simp [R_looks_278])
  | succ n ih =>
    rw [R_looks_278.eq_2] at h
    refine ai (r_iload (pc := 278) (k := 2) (by decide +kernel : decode k_R_looks.2.1 278 = .ok (.iload 6, 2)) rfl) ?_
    refine ai (p_aload_n (pc := 280) (k := 0) (by decide +kernel : decode k_R_looks.2.1 280 = .ok (.aload_n 0, 1)) rfl rfl) ?_
    refine ai (r_getI (pc := 281) (by decide +kernel : decode k_R_looks.2.1 281 = .ok (.getfield 341, 3)) lg_12_341 (by decide) (RC_0 hL).1) ?_
    rcases ite_some h with ⟨c1, h⟩ | ⟨c1, h⟩
    · refine ai (r_icmp_ge_t (pc := 284) (tgt := 352) (by decide +kernel : decode k_R_looks.2.1 284 = .ok (.if_icmp .ge (68), 3)) (by decide) c1) ?_
      exact (ai (r_sub [0, 1] rfl) (R_looks_352_run hL h))
    · refine ai (r_icmp_ge_f (pc := 284) 352 (by decide +kernel : decode k_R_looks.2.1 284 = .ok (.if_icmp .ge (68), 3)) (by decide) c1) ?_
      refine ai (p_aload_n (pc := 287) (k := 0) (by decide +kernel : decode k_R_looks.2.1 287 = .ok (.aload_n 0, 1)) rfl rfl) ?_
      refine ai (p_getr (pc := 288) (RR_1615_0 hL) (by decide +kernel : decode k_R_looks.2.1 288 = .ok (.getfield 176, 3)) lg_12_176 (RC_0 hL).1) ?_
      refine ai (r_iload (pc := 291) (k := 2) (by decide +kernel : decode k_R_looks.2.1 291 = .ok (.iload 6, 2)) rfl) ?_
      obtain ⟨g2, h⟩ := gd_some h
      refine ai (p_zald (pc := 293) (by decide +kernel : decode k_R_looks.2.1 293 = .ok (.baload, 1)) (RC_52 hL).1 (RC_52 hL).2 g2) ?_
      rcases ite_some h with ⟨c3, h⟩ | ⟨c3, h⟩
      · refine ai (r_if_eq_t (pc := 294) (tgt := 346) (by decide +kernel : decode k_R_looks.2.1 294 = .ok (.ifCond .eq (52), 3)) (by decide) c3) ?_
        exact (R_looks_346_run (fun _ _ _ _ _ q1 q3 => ih q1 q3) hL h)
      · refine ai (r_if_eq_f (pc := 294) 346 (by decide +kernel : decode k_R_looks.2.1 294 = .ok (.ifCond .eq (52), 3)) (by decide) c3) ?_
        refine ai (p_aload_n (pc := 297) (k := 0) (by decide +kernel : decode k_R_looks.2.1 297 = .ok (.aload_n 0, 1)) rfl rfl) ?_
        refine ai (p_getr (pc := 298) (RR_1555_0 hL) (by decide +kernel : decode k_R_looks.2.1 298 = .ok (.getfield 40, 3)) lg_12_40 (RC_0 hL).1) ?_
        refine ai (r_iload (pc := 301) (k := 2) (by decide +kernel : decode k_R_looks.2.1 301 = .ok (.iload 6, 2)) rfl) ?_
        obtain ⟨g4, h⟩ := gd_some h
        refine ai (p_iald (pc := 303) (by decide +kernel : decode k_R_looks.2.1 303 = .ok (.iaload, 1)) (RC_8 hL).1 (RC_8 hL).2 g4) ?_
        rcases ite_some h with ⟨c5, h⟩ | ⟨c5, h⟩
        · refine ai (r_if_eq_t (pc := 304) (tgt := 318) (by decide +kernel : decode k_R_looks.2.1 304 = .ok (.ifCond .eq (14), 3)) (by decide) c5) ?_
          exact (R_looks_318_run (fun _ _ _ _ _ q1 q3 => ih q1 q3) hL h)
        · refine ai (r_if_eq_f (pc := 304) 318 (by decide +kernel : decode k_R_looks.2.1 304 = .ok (.ifCond .eq (14), 3)) (by decide) c5) ?_
          refine ai (p_aload_n (pc := 307) (k := 0) (by decide +kernel : decode k_R_looks.2.1 307 = .ok (.aload_n 0, 1)) rfl rfl) ?_
          refine ai (p_getr (pc := 308) (RR_1555_0 hL) (by decide +kernel : decode k_R_looks.2.1 308 = .ok (.getfield 40, 3)) lg_12_40 (RC_0 hL).1) ?_
          refine ai (r_iload (pc := 311) (k := 2) (by decide +kernel : decode k_R_looks.2.1 311 = .ok (.iload 6, 2)) rfl) ?_
          obtain ⟨g6, h⟩ := gd_some h
          refine ai (p_iald (pc := 313) (by decide +kernel : decode k_R_looks.2.1 313 = .ok (.iaload, 1)) (RC_8 hL).1 (RC_8 hL).2 g6) ?_
          refine ai (r_iconst (pc := 314) (by decide +kernel : decode k_R_looks.2.1 314 = .ok (.iconst 3, 1)) ic_3) ?_
          rcases ite_some h with ⟨c7, h⟩ | ⟨c7, h⟩
          · refine ai (r_icmp_ne_f (pc := 315) 346 (by decide +kernel : decode k_R_looks.2.1 315 = .ok (.if_icmp .ne (31), 3)) (by decide) c7) ?_
            exact (R_looks_318_run (fun _ _ _ _ _ q1 q3 => ih q1 q3) hL h)
          · refine ai (r_icmp_ne_t (pc := 315) (tgt := 346) (by decide +kernel : decode k_R_looks.2.1 315 = .ok (.if_icmp .ne (31), 3)) (by decide) c7) ?_
            exact (R_looks_346_run (fun _ _ _ _ _ q1 q3 => ih q1 q3) hL h)
set_option maxRecDepth 100000 in
set_option maxHeartbeats 4000000 in
theorem R_looks_275_run {x1 : Int32} {m m' : Mem} {r : Unit} (hL : RL m) (h : R_looks_275 x1 m = some (r, m')) : Run k_R_looks 275 [(0, .ref 0), (1, .int x1)] [] m none m' ∧ RL m' := by
  unfold R_looks_275 at h
  refine ai (r_iconst (pc := 275) (by decide +kernel : decode k_R_looks.2.1 275 = .ok (.iconst 0, 1)) ic_0) ?_
  refine ai (e_istore (pc := 276) rfl (by decide +kernel : decode k_R_looks.2.1 276 = .ok (.istore 6, 2)) (by decide) rfl) ?_
  exact (ai (r_sub [1, 2, 0] rfl) (R_looks_278_run hL h))
set_option maxRecDepth 100000 in
set_option maxHeartbeats 4000000 in
theorem R_looks_125_run {n : Nat} {x1 : Int32} {x4 : Int32} {x5 : Int32} {x6 : Int32} {m m' : Mem} {r : Unit} (hL : RL m) (h : R_looks_125 n x1 x4 x5 x6 m = some (r, m')) : Run k_R_looks 125 [(0, .ref 0), (1, .int x1), (4, .int x4), (5, .int x5), (6, .int x6)] [] m none m' ∧ RL m' := by
  induction n generalizing x1 x4 x5 x6 m r m' with
  | zero => exact absurd h (by simp [R_looks_125])
  | succ n ih =>
    rw [R_looks_125.eq_2] at h
    refine ai (r_iload (pc := 125) (k := 4) (by decide +kernel : decode k_R_looks.2.1 125 = .ok (.iload 6, 2)) rfl) ?_
    refine ai (r_bipush (pc := 127) (by decide +kernel : decode k_R_looks.2.1 127 = .ok (.bipush (48), 2)) (by decide : _ = (48 : Int32))) ?_
    rcases ite_some h with ⟨c1, h⟩ | ⟨c1, h⟩
    · refine ai (r_icmp_ge_t (pc := 129) (tgt := 275) (by decide +kernel : decode k_R_looks.2.1 129 = .ok (.if_icmp .ge (146), 3)) (by decide) c1) ?_
      exact (ai (r_sub [0, 1] rfl) (R_looks_275_run hL h))
    · refine ai (r_icmp_ge_f (pc := 129) 275 (by decide +kernel : decode k_R_looks.2.1 129 = .ok (.if_icmp .ge (146), 3)) (by decide) c1) ?_
      refine ai (p_aload_n (pc := 132) (k := 0) (by decide +kernel : decode k_R_looks.2.1 132 = .ok (.aload_n 0, 1)) rfl rfl) ?_
      refine ai (p_getr (pc := 133) (RR_1630_0 hL) (by decide +kernel : decode k_R_looks.2.1 133 = .ok (.getfield 206, 3)) lg_12_206 (RC_0 hL).1) ?_
      refine ai (r_iload (pc := 136) (k := 4) (by decide +kernel : decode k_R_looks.2.1 136 = .ok (.iload 6, 2)) rfl) ?_
      refine ai (p_aload_n (pc := 138) (k := 0) (by decide +kernel : decode k_R_looks.2.1 138 = .ok (.aload_n 0, 1)) rfl rfl) ?_
      refine ai (r_iload (pc := 139) (k := 2) (by decide +kernel : decode k_R_looks.2.1 139 = .ok (.iload 4, 2)) rfl) ?_
      refine ai (r_iload (pc := 141) (k := 4) (by decide +kernel : decode k_R_looks.2.1 141 = .ok (.iload 6, 2)) rfl) ?_
      obtain ⟨r2, m3, hr2, h⟩ := bn_some h
      have q4 := R_doneIn_run hL hr2
      have c5 := (RC_0 hL).1
      have hL := q4.2
      refine ai (q_callV (pc := 143) (As := [.int x4, .int x6]) (st := [.int x6, .ref 60]) (st2 := [.int r2, .int x6, .ref 60]) (b := 0) rfl rfl (by decide +kernel : decode k_R_looks.2.1 143 = .ok (.invokevirtual 537, 3)) lc_12_537 mo_R_doneIn ⟨Nat.le_of_ble_eq_true rfl, Nat.le_of_ble_eq_true rfl⟩ (Nat.le_of_ble_eq_true rfl) (Nat.le_of_ble_eq_true rfl) c5 q4.1) ?_
      obtain ⟨g6, h⟩ := gd_some h
      have c7 := (RC_60 hL).1
      have c8 := (RC_60 hL).2
      obtain ⟨m9, hm9, h⟩ := vb_some h
      have hL : RL m9 := by rw [hm9]; exact hL
      refine ai (p_iast (pc := 146) hm9 (by decide +kernel : decode k_R_looks.2.1 146 = .ok (.iastore, 1)) c7 c8 g6) ?_
      refine ai (p_aload_n (pc := 147) (k := 0) (by decide +kernel : decode k_R_looks.2.1 147 = .ok (.aload_n 0, 1)) rfl rfl) ?_
      refine ai (p_getr (pc := 148) (RR_1631_0 hL) (by decide +kernel : decode k_R_looks.2.1 148 = .ok (.getfield 209, 3)) lg_12_209 (RC_0 hL).1) ?_
      refine ai (r_iload (pc := 151) (k := 4) (by decide +kernel : decode k_R_looks.2.1 151 = .ok (.iload 6, 2)) rfl) ?_
      refine ai (r_iload (pc := 153) (k := 3) (by decide +kernel : decode k_R_looks.2.1 153 = .ok (.iload 5, 2)) rfl) ?_
      obtain ⟨g10, h⟩ := gd_some h
      have c11 := (RC_61 hL).1
      have c12 := (RC_61 hL).2
      obtain ⟨m13, hm13, h⟩ := vb_some h
      have hL : RL m13 := by rw [hm13]; exact hL
      refine ai (p_iast (pc := 155) hm13 (by decide +kernel : decode k_R_looks.2.1 155 = .ok (.iastore, 1)) c11 c12 g10) ?_
      refine ai (p_aload_n (pc := 156) (k := 0) (by decide +kernel : decode k_R_looks.2.1 156 = .ok (.aload_n 0, 1)) rfl rfl) ?_
      refine ai (p_getr (pc := 157) (RR_1632_0 hL) (by decide +kernel : decode k_R_looks.2.1 157 = .ok (.getfield 212, 3)) lg_12_212 (RC_0 hL).1) ?_
      refine ai (r_iload (pc := 160) (k := 4) (by decide +kernel : decode k_R_looks.2.1 160 = .ok (.iload 6, 2)) rfl) ?_
      refine ai (r_iconst (pc := 162) (by decide +kernel : decode k_R_looks.2.1 162 = .ok (.iconst (-1), 1)) ic_m1) ?_
      obtain ⟨g14, h⟩ := gd_some h
      have c15 := (RC_62 hL).1
      have c16 := (RC_62 hL).2
      obtain ⟨m17, hm17, h⟩ := vb_some h
      have hL : RL m17 := by rw [hm17]; exact hL
      refine ai (p_iast (pc := 163) hm17 (by decide +kernel : decode k_R_looks.2.1 163 = .ok (.iastore, 1)) c15 c16 g14) ?_
      refine ai (p_aload_n (pc := 164) (k := 0) (by decide +kernel : decode k_R_looks.2.1 164 = .ok (.aload_n 0, 1)) rfl rfl) ?_
      refine ai (p_getr (pc := 165) (RR_1634_0 hL) (by decide +kernel : decode k_R_looks.2.1 165 = .ok (.getfield 218, 3)) lg_12_218 (RC_0 hL).1) ?_
      refine ai (r_iload (pc := 168) (k := 4) (by decide +kernel : decode k_R_looks.2.1 168 = .ok (.iload 6, 2)) rfl) ?_
      refine ai (r_iconst (pc := 170) (by decide +kernel : decode k_R_looks.2.1 170 = .ok (.iconst (-1), 1)) ic_m1) ?_
      obtain ⟨g18, h⟩ := gd_some h
      have c19 := (RC_64 hL).1
      have c20 := (RC_64 hL).2
      obtain ⟨m21, hm21, h⟩ := vb_some h
      have hL : RL m21 := by rw [hm21]; exact hL
      refine ai (p_iast (pc := 171) hm21 (by decide +kernel : decode k_R_looks.2.1 171 = .ok (.iastore, 1)) c19 c20 g18) ?_
      refine ai (p_aload_n (pc := 172) (k := 0) (by decide +kernel : decode k_R_looks.2.1 172 = .ok (.aload_n 0, 1)) rfl rfl) ?_
      refine ai (p_getr (pc := 173) (RR_1633_0 hL) (by decide +kernel : decode k_R_looks.2.1 173 = .ok (.getfield 215, 3)) lg_12_215 (RC_0 hL).1) ?_
      refine ai (r_iload (pc := 176) (k := 4) (by decide +kernel : decode k_R_looks.2.1 176 = .ok (.iload 6, 2)) rfl) ?_
      refine ai (r_iconst (pc := 178) (by decide +kernel : decode k_R_looks.2.1 178 = .ok (.iconst (-1), 1)) ic_m1) ?_
      obtain ⟨g22, h⟩ := gd_some h
      have c23 := (RC_63 hL).1
      have c24 := (RC_63 hL).2
      obtain ⟨m25, hm25, h⟩ := vb_some h
      have hL : RL m25 := by rw [hm25]; exact hL
      refine ai (p_iast (pc := 179) hm25 (by decide +kernel : decode k_R_looks.2.1 179 = .ok (.iastore, 1)) c23 c24 g22) ?_
      refine ai (p_aload_n (pc := 180) (k := 0) (by decide +kernel : decode k_R_looks.2.1 180 = .ok (.aload_n 0, 1)) rfl rfl) ?_
      refine ai (p_getr (pc := 181) (RR_1635_0 hL) (by decide +kernel : decode k_R_looks.2.1 181 = .ok (.getfield 221, 3)) lg_12_221 (RC_0 hL).1) ?_
      refine ai (r_iload (pc := 184) (k := 4) (by decide +kernel : decode k_R_looks.2.1 184 = .ok (.iload 6, 2)) rfl) ?_
      refine ai (r_iconst (pc := 186) (by decide +kernel : decode k_R_looks.2.1 186 = .ok (.iconst (-1), 1)) ic_m1) ?_
      obtain ⟨g26, h⟩ := gd_some h
      have c27 := (RC_65 hL).1
      have c28 := (RC_65 hL).2
      obtain ⟨m29, hm29, h⟩ := vb_some h
      have hL : RL m29 := by rw [hm29]; exact hL
      refine ai (p_iast (pc := 187) hm29 (by decide +kernel : decode k_R_looks.2.1 187 = .ok (.iastore, 1)) c27 c28 g26) ?_
      refine ai (p_aload_n (pc := 188) (k := 0) (by decide +kernel : decode k_R_looks.2.1 188 = .ok (.aload_n 0, 1)) rfl rfl) ?_
      refine ai (p_getr (pc := 189) (RR_1636_0 hL) (by decide +kernel : decode k_R_looks.2.1 189 = .ok (.getfield 224, 3)) lg_12_224 (RC_0 hL).1) ?_
      refine ai (r_iload (pc := 192) (k := 4) (by decide +kernel : decode k_R_looks.2.1 192 = .ok (.iload 6, 2)) rfl) ?_
      refine ai (r_iconst (pc := 194) (by decide +kernel : decode k_R_looks.2.1 194 = .ok (.iconst 0, 1)) ic_0) ?_
      obtain ⟨g30, h⟩ := gd_some h
      have c31 := (RC_66 hL).1
      have c32 := (RC_66 hL).2
      obtain ⟨m33, hm33, h⟩ := vb_some h
      have hL : RL m33 := by rw [hm33]; exact hL
      refine ai (p_iast (pc := 195) hm33 (by decide +kernel : decode k_R_looks.2.1 195 = .ok (.iastore, 1)) c31 c32 g30) ?_
      refine ai (p_aload_n (pc := 196) (k := 0) (by decide +kernel : decode k_R_looks.2.1 196 = .ok (.aload_n 0, 1)) rfl rfl) ?_
      refine ai (p_getr (pc := 197) (RR_1637_0 hL) (by decide +kernel : decode k_R_looks.2.1 197 = .ok (.getfield 227, 3)) lg_12_227 (RC_0 hL).1) ?_
      refine ai (r_iload (pc := 200) (k := 4) (by decide +kernel : decode k_R_looks.2.1 200 = .ok (.iload 6, 2)) rfl) ?_
      refine ai (r_iconst (pc := 202) (by decide +kernel : decode k_R_looks.2.1 202 = .ok (.iconst 0, 1)) ic_0) ?_
      obtain ⟨g34, h⟩ := gd_some h
      have c35 := (RC_67 hL).1
      have c36 := (RC_67 hL).2
      obtain ⟨m37, hm37, h⟩ := vb_some h
      have hL : RL m37 := by rw [hm37]; exact hL
      refine ai (p_iast (pc := 203) hm37 (by decide +kernel : decode k_R_looks.2.1 203 = .ok (.iastore, 1)) c35 c36 g34) ?_
      refine ai (p_aload_n (pc := 204) (k := 0) (by decide +kernel : decode k_R_looks.2.1 204 = .ok (.aload_n 0, 1)) rfl rfl) ?_
      refine ai (p_getr (pc := 205) (RR_1630_0 hL) (by decide +kernel : decode k_R_looks.2.1 205 = .ok (.getfield 206, 3)) lg_12_206 (RC_0 hL).1) ?_
      refine ai (r_iload (pc := 208) (k := 4) (by decide +kernel : decode k_R_looks.2.1 208 = .ok (.iload 6, 2)) rfl) ?_
      obtain ⟨g38, h⟩ := gd_some h
      refine ai (p_iald (pc := 210) (by decide +kernel : decode k_R_looks.2.1 210 = .ok (.iaload, 1)) (RC_60 hL).1 (RC_60 hL).2 g38) ?_
      obtain ⟨r39, hr39, h⟩ := bp_some h
      refine ai (q_callS (pc := 211) (As := [.int (aI m37 60 (ix x6))]) (st := []) (st2 := [.int r39]) rfl rfl (by decide +kernel : decode k_R_looks.2.1 211 = .ok (.invokestatic 570, 3)) lc_12_570 mo_R_isTask ⟨Nat.le_of_ble_eq_true rfl, Nat.le_of_ble_eq_true rfl⟩ (Nat.le_of_ble_eq_true rfl) (Nat.le_of_ble_eq_true rfl) (R_isTask_run hr39)) ?_
      rcases ite_some h with ⟨c40, h⟩ | ⟨c40, h⟩
      · refine ai (r_if_ne_f (pc := 214) 220 (by decide +kernel : decode k_R_looks.2.1 214 = .ok (.ifCond .ne (6), 3)) (by decide) c40) ?_
        refine ai (r_goto (pc := 217) (tgt := 269) (by decide +kernel : decode k_R_looks.2.1 217 = .ok (.goto (52), 3)) (by decide)) ?_
        exact (R_looks_269_run (fun _ _ _ _ _ _ _ q1 q3 => ih q1 q3) hL h)
      · refine ai (r_if_ne_t (pc := 214) (tgt := 220) (by decide +kernel : decode k_R_looks.2.1 214 = .ok (.ifCond .ne (6), 3)) (by decide) c40) ?_
        obtain ⟨v41, hv41, h⟩ := vb_some h
        refine ai (e_iinc (pc := 220) (k := 3) hv41 ic_1 (by decide +kernel : decode k_R_looks.2.1 220 = .ok (.iinc 5 (1), 3)) rfl (by decide) rfl) ?_
        refine ai (p_aload_n (pc := 223) (k := 1) (by decide +kernel : decode k_R_looks.2.1 223 = .ok (.aload_n 0, 1)) rfl rfl) ?_
        refine ai (r_iload_n (pc := 224) (k := 2) (by decide +kernel : decode k_R_looks.2.1 224 = .ok (.iload_n 1, 1)) rfl rfl) ?_
        refine ai (r_iload (pc := 225) (k := 4) (by decide +kernel : decode k_R_looks.2.1 225 = .ok (.iload 6, 2)) rfl) ?_
        obtain ⟨r42, m43, hr42, h⟩ := bn_some h
        have q44 := R_asks_run hL hr42
        have c45 := (RC_0 hL).1
        have hL := q44.2
        refine ai (q_callV (pc := 227) (As := [.int x1, .int x6]) (st := []) (st2 := []) (b := 0) rfl rfl (by decide +kernel : decode k_R_looks.2.1 227 = .ok (.invokevirtual 564, 3)) lc_12_564 mo_R_asks ⟨Nat.le_of_ble_eq_true rfl, Nat.le_of_ble_eq_true rfl⟩ (Nat.le_of_ble_eq_true rfl) (Nat.le_of_ble_eq_true rfl) c45 q44.1) ?_
        refine ai (p_aload_n (pc := 230) (k := 1) (by decide +kernel : decode k_R_looks.2.1 230 = .ok (.aload_n 0, 1)) rfl rfl) ?_
        refine ai (p_getr (pc := 231) (RR_1632_0 hL) (by decide +kernel : decode k_R_looks.2.1 231 = .ok (.getfield 212, 3)) lg_12_212 (RC_0 hL).1) ?_
        refine ai (r_iload (pc := 234) (k := 4) (by decide +kernel : decode k_R_looks.2.1 234 = .ok (.iload 6, 2)) rfl) ?_
        refine ai (p_aload_n (pc := 236) (k := 1) (by decide +kernel : decode k_R_looks.2.1 236 = .ok (.aload_n 0, 1)) rfl rfl) ?_
        obtain ⟨r46, m47, hr46, h⟩ := bn_some h
        have q48 := R_boundBy_run hL hr46
        have c49 := (RC_0 hL).1
        have hL := q48.2
        refine ai (q_callV (pc := 237) (As := []) (st := [.int x6, .ref 62]) (st2 := [.int r46, .int x6, .ref 62]) (b := 0) rfl rfl (by decide +kernel : decode k_R_looks.2.1 237 = .ok (.invokevirtual 585, 3)) lc_12_585 mo_R_boundBy ⟨Nat.le_of_ble_eq_true rfl, Nat.le_of_ble_eq_true rfl⟩ (Nat.le_of_ble_eq_true rfl) (Nat.le_of_ble_eq_true rfl) c49 q48.1) ?_
        obtain ⟨g50, h⟩ := gd_some h
        have c51 := (RC_62 hL).1
        have c52 := (RC_62 hL).2
        obtain ⟨m53, hm53, h⟩ := vb_some h
        have hL : RL m53 := by rw [hm53]; exact hL
        refine ai (p_iast (pc := 240) hm53 (by decide +kernel : decode k_R_looks.2.1 240 = .ok (.iastore, 1)) c51 c52 g50) ?_
        refine ai (p_aload_n (pc := 241) (k := 1) (by decide +kernel : decode k_R_looks.2.1 241 = .ok (.aload_n 0, 1)) rfl rfl) ?_
        refine ai (p_getr (pc := 242) (RR_1632_0 hL) (by decide +kernel : decode k_R_looks.2.1 242 = .ok (.getfield 212, 3)) lg_12_212 (RC_0 hL).1) ?_
        refine ai (r_iload (pc := 245) (k := 4) (by decide +kernel : decode k_R_looks.2.1 245 = .ok (.iload 6, 2)) rfl) ?_
        obtain ⟨g54, h⟩ := gd_some h
        refine ai (p_iald (pc := 247) (by decide +kernel : decode k_R_looks.2.1 247 = .ok (.iaload, 1)) (RC_62 hL).1 (RC_62 hL).2 g54) ?_
        rcases ite_some h with ⟨c55, h⟩ | ⟨c55, h⟩
        · refine ai (r_if_lt_t (pc := 248) (tgt := 269) (by decide +kernel : decode k_R_looks.2.1 248 = .ok (.ifCond .lt (21), 3)) (by decide) c55) ?_
          exact (ai (r_sub [1, 2, 3, 0, 4] rfl) (R_looks_269_run (fun _ _ _ _ _ _ _ q1 q3 => ih q1 q3) hL h))
        · refine ai (r_if_lt_f (pc := 248) 269 (by decide +kernel : decode k_R_looks.2.1 248 = .ok (.ifCond .lt (21), 3)) (by decide) c55) ?_
          refine ai (p_aload_n (pc := 251) (k := 1) (by decide +kernel : decode k_R_looks.2.1 251 = .ok (.aload_n 0, 1)) rfl rfl) ?_
          refine ai (p_getr (pc := 252) (RR_1634_0 hL) (by decide +kernel : decode k_R_looks.2.1 252 = .ok (.getfield 218, 3)) lg_12_218 (RC_0 hL).1) ?_
          refine ai (r_iload (pc := 255) (k := 4) (by decide +kernel : decode k_R_looks.2.1 255 = .ok (.iload 6, 2)) rfl) ?_
          refine ai (p_aload_n (pc := 257) (k := 1) (by decide +kernel : decode k_R_looks.2.1 257 = .ok (.aload_n 0, 1)) rfl rfl) ?_
          refine ai (p_aload_n (pc := 258) (k := 1) (by decide +kernel : decode k_R_looks.2.1 258 = .ok (.aload_n 0, 1)) rfl rfl) ?_
          refine ai (p_getr (pc := 259) (RR_1632_0 hL) (by decide +kernel : decode k_R_looks.2.1 259 = .ok (.getfield 212, 3)) lg_12_212 (RC_0 hL).1) ?_
          refine ai (r_iload (pc := 262) (k := 4) (by decide +kernel : decode k_R_looks.2.1 262 = .ok (.iload 6, 2)) rfl) ?_
          obtain ⟨g56, h⟩ := gd_some h
          refine ai (p_iald (pc := 264) (by decide +kernel : decode k_R_looks.2.1 264 = .ok (.iaload, 1)) (RC_62 hL).1 (RC_62 hL).2 g56) ?_
          obtain ⟨r57, m58, hr57, h⟩ := bn_some h
          have q59 := R_agreeOf_run hL hr57
          have c60 := (RC_0 hL).1
          have hL := q59.2
          refine ai (q_callV (pc := 265) (As := [.int (aI m53 62 (ix x6))]) (st := [.int x6, .ref 64]) (st2 := [.int r57, .int x6, .ref 64]) (b := 0) rfl rfl (by decide +kernel : decode k_R_looks.2.1 265 = .ok (.invokevirtual 588, 3)) lc_12_588 mo_R_agreeOf ⟨Nat.le_of_ble_eq_true rfl, Nat.le_of_ble_eq_true rfl⟩ (Nat.le_of_ble_eq_true rfl) (Nat.le_of_ble_eq_true rfl) c60 q59.1) ?_
          obtain ⟨g61, h⟩ := gd_some h
          have c62 := (RC_64 hL).1
          have c63 := (RC_64 hL).2
          obtain ⟨m64, hm64, h⟩ := vb_some h
          have hL : RL m64 := by rw [hm64]; exact hL
          refine ai (p_iast (pc := 268) hm64 (by decide +kernel : decode k_R_looks.2.1 268 = .ok (.iastore, 1)) c62 c63 g61) ?_
          exact (ai (r_sub [1, 2, 3, 0, 4] rfl) (R_looks_269_run (fun _ _ _ _ _ _ _ q1 q3 => ih q1 q3) hL h))
set_option maxRecDepth 100000 in
set_option maxHeartbeats 4000000 in
theorem R_looks_119_run {x1 : Int32} {x4 : Int32} {m m' : Mem} {r : Unit} (hL : RL m) (h : R_looks_119 x1 x4 m = some (r, m')) : Run k_R_looks 119 [(0, .ref 0), (1, .int x1), (4, .int x4)] [] m none m' ∧ RL m' := by
  unfold R_looks_119 at h
  refine ai (r_iconst (pc := 119) (by decide +kernel : decode k_R_looks.2.1 119 = .ok (.iconst 0, 1)) ic_0) ?_
  refine ai (e_istore (pc := 120) rfl (by decide +kernel : decode k_R_looks.2.1 120 = .ok (.istore 5, 2)) (by decide) rfl) ?_
  refine ai (r_iconst (pc := 122) (by decide +kernel : decode k_R_looks.2.1 122 = .ok (.iconst 0, 1)) ic_0) ?_
  refine ai (e_istore (pc := 123) rfl (by decide +kernel : decode k_R_looks.2.1 123 = .ok (.istore 6, 2)) (by decide) rfl) ?_
  exact (ai (r_sub [2, 3, 4, 1, 0] rfl) (R_looks_125_run hL h))
set_option maxRecDepth 100000 in
set_option maxHeartbeats 4000000 in
theorem R_looks_90_run {n : Nat} {x1 : Int32} {x2 : Int32} {x3 : Int32} {x4 : Int32} {x5 : Int32} {m m' : Mem} {r : Unit} (hL : RL m) (h : R_looks_90 n x1 x2 x3 x4 x5 m = some (r, m')) : Run k_R_looks 90 [(0, .ref 0), (1, .int x1), (2, .int x2), (3, .int x3), (4, .int x4), (5, .int x5)] [] m none m' ∧ RL m' := by
  induction n generalizing x1 x2 x3 x4 x5 m r m' with
  | zero => exact absurd h (by simp [R_looks_90])
  | succ n ih =>
    rw [R_looks_90.eq_2] at h
    refine ai (r_iload (pc := 90) (k := 5) (by decide +kernel : decode k_R_looks.2.1 90 = .ok (.iload 5, 2)) rfl) ?_
    refine ai (r_iload_n (pc := 92) (k := 2) (by decide +kernel : decode k_R_looks.2.1 92 = .ok (.iload_n 2, 1)) rfl rfl) ?_
    rcases ite_some h with ⟨c1, h⟩ | ⟨c1, h⟩
    · refine ai (r_icmp_ge_t (pc := 93) (tgt := 119) (by decide +kernel : decode k_R_looks.2.1 93 = .ok (.if_icmp .ge (26), 3)) (by decide) c1) ?_
      exact (ai (r_sub [0, 1, 4] rfl) (R_looks_119_run hL h))
    · refine ai (r_icmp_ge_f (pc := 93) 119 (by decide +kernel : decode k_R_looks.2.1 93 = .ok (.if_icmp .ge (26), 3)) (by decide) c1) ?_
      refine ai (p_aload_n (pc := 96) (k := 0) (by decide +kernel : decode k_R_looks.2.1 96 = .ok (.aload_n 0, 1)) rfl rfl) ?_
      refine ai (r_dup (pc := 97) (by decide +kernel : decode k_R_looks.2.1 97 = .ok (.dup, 1)) (rfl)) ?_
      refine ai (r_getI (pc := 98) (by decide +kernel : decode k_R_looks.2.1 98 = .ok (.getfield 540, 3)) lg_12_540 (by decide) (RC_0 hL).1) ?_
      refine ai (p_aload_n (pc := 101) (k := 0) (by decide +kernel : decode k_R_looks.2.1 101 = .ok (.aload_n 0, 1)) rfl rfl) ?_
      refine ai (r_iload_n (pc := 102) (k := 1) (by decide +kernel : decode k_R_looks.2.1 102 = .ok (.iload_n 1, 1)) rfl rfl) ?_
      refine ai (r_iload (pc := 103) (k := 5) (by decide +kernel : decode k_R_looks.2.1 103 = .ok (.iload 5, 2)) rfl) ?_
      refine ai (r_iload_n (pc := 105) (k := 3) (by decide +kernel : decode k_R_looks.2.1 105 = .ok (.iload_n 3, 1)) rfl rfl) ?_
      obtain ⟨r2, m3, hr2, h⟩ := bn_some h
      have q4 := R_tasksOf_run hL hr2
      have c5 := (RC_0 hL).1
      have hL := q4.2
      refine ai (q_callV (pc := 106) (As := [.int x1, .int x5, .int x3]) (st := [.int (mI m 1638 0), .ref 0]) (st2 := [.int r2, .int (mI m 1638 0), .ref 0]) (b := 0) rfl rfl (by decide +kernel : decode k_R_looks.2.1 106 = .ok (.invokevirtual 582, 3)) lc_12_582 mo_R_tasksOf ⟨Nat.le_of_ble_eq_true rfl, Nat.le_of_ble_eq_true rfl⟩ (Nat.le_of_ble_eq_true rfl) (Nat.le_of_ble_eq_true rfl) c5 q4.1) ?_
      refine ai (r_iadd (pc := 109) (by decide +kernel : decode k_R_looks.2.1 109 = .ok (.iadd, 1))) ?_
      have c6 := (RC_0 hL).1
      obtain ⟨m7, hm7, h⟩ := vb_some h
      have hL : RL m7 := by rw [hm7]; exact hL
      refine ai (p_putI (pc := 110) hm7 (by decide +kernel : decode k_R_looks.2.1 110 = .ok (.putfield 540, 3)) lp_12_540 c6) ?_
      obtain ⟨v8, hv8, h⟩ := vb_some h
      refine ai (e_iinc (pc := 113) (k := 5) hv8 ic_1 (by decide +kernel : decode k_R_looks.2.1 113 = .ok (.iinc 5 (1), 3)) rfl (by decide) rfl) ?_
      refine ai (r_goto (pc := 116) (tgt := 90) (by decide +kernel : decode k_R_looks.2.1 116 = .ok (.goto (-26), 3)) (by decide)) ?_
      exact (ai (r_sub [1, 2, 3, 4, 5, 0] rfl) (ih hL h))
set_option maxRecDepth 100000 in
set_option maxHeartbeats 4000000 in
theorem R_looks_37_run {x1 : Int32} {x2 : Int32} {x3 : Int32} {m m' : Mem} {r : Unit} (hL : RL m) (h : R_looks_37 x1 x2 x3 m = some (r, m')) : Run k_R_looks 37 [(0, .ref 0), (1, .int x1), (2, .int x2), (3, .int x3)] [] m none m' ∧ RL m' := by
  unfold R_looks_37 at h
  refine ai (p_aload_n (pc := 37) (k := 0) (by decide +kernel : decode k_R_looks.2.1 37 = .ok (.aload_n 0, 1)) rfl rfl) ?_
  refine ai (r_iload_n (pc := 38) (k := 2) (by decide +kernel : decode k_R_looks.2.1 38 = .ok (.iload_n 2, 1)) rfl rfl) ?_
  have c1 := (RC_0 hL).1
  obtain ⟨m2, hm2, h⟩ := vb_some h
  have hL : RL m2 := by rw [hm2]; exact hL
  refine ai (p_putI (pc := 39) hm2 (by decide +kernel : decode k_R_looks.2.1 39 = .ok (.putfield 203, 3)) lp_12_203 c1) ?_
  refine ai (p_aload_n (pc := 42) (k := 0) (by decide +kernel : decode k_R_looks.2.1 42 = .ok (.aload_n 0, 1)) rfl rfl) ?_
  refine ai (r_iload_n (pc := 43) (k := 1) (by decide +kernel : decode k_R_looks.2.1 43 = .ok (.iload_n 1, 1)) rfl rfl) ?_
  have c3 := (RC_0 hL).1
  obtain ⟨m4, hm4, h⟩ := vb_some h
  have hL : RL m4 := by rw [hm4]; exact hL
  refine ai (p_putI (pc := 44) hm4 (by decide +kernel : decode k_R_looks.2.1 44 = .ok (.putfield 573, 3)) lp_12_573 c3) ?_
  refine ai (p_aload_n (pc := 47) (k := 0) (by decide +kernel : decode k_R_looks.2.1 47 = .ok (.aload_n 0, 1)) rfl rfl) ?_
  refine ai (r_iload_n (pc := 48) (k := 3) (by decide +kernel : decode k_R_looks.2.1 48 = .ok (.iload_n 3, 1)) rfl rfl) ?_
  have c5 := (RC_0 hL).1
  obtain ⟨m6, hm6, h⟩ := vb_some h
  have hL : RL m6 := by rw [hm6]; exact hL
  refine ai (p_putI (pc := 49) hm6 (by decide +kernel : decode k_R_looks.2.1 49 = .ok (.putfield 576, 3)) lp_12_576 c5) ?_
  refine ai (p_aload_n (pc := 52) (k := 0) (by decide +kernel : decode k_R_looks.2.1 52 = .ok (.aload_n 0, 1)) rfl rfl) ?_
  refine ai (r_iload_n (pc := 53) (k := 1) (by decide +kernel : decode k_R_looks.2.1 53 = .ok (.iload_n 1, 1)) rfl rfl) ?_
  refine ai (r_iload_n (pc := 54) (k := 2) (by decide +kernel : decode k_R_looks.2.1 54 = .ok (.iload_n 2, 1)) rfl rfl) ?_
  refine ai (r_iload_n (pc := 55) (k := 3) (by decide +kernel : decode k_R_looks.2.1 55 = .ok (.iload_n 3, 1)) rfl rfl) ?_
  obtain ⟨r7, m8, hr7, h⟩ := bn_some h
  have q9 := R_rowFact_run hL hr7
  have c10 := (RC_0 hL).1
  have hL := q9.2
  refine ai (q_callV (pc := 56) (As := [.int x1, .int x2, .int x3]) (st := []) (st2 := [.int r7]) (b := 0) rfl rfl (by decide +kernel : decode k_R_looks.2.1 56 = .ok (.invokevirtual 534, 3)) lc_12_534 mo_R_rowFact ⟨Nat.le_of_ble_eq_true rfl, Nat.le_of_ble_eq_true rfl⟩ (Nat.le_of_ble_eq_true rfl) (Nat.le_of_ble_eq_true rfl) c10 q9.1) ?_
  refine ai (e_istore (pc := 59) rfl (by decide +kernel : decode k_R_looks.2.1 59 = .ok (.istore 4, 2)) (by decide) rfl) ?_
  refine ai (p_aload_n (pc := 61) (k := 1) (by decide +kernel : decode k_R_looks.2.1 61 = .ok (.aload_n 0, 1)) rfl rfl) ?_
  refine ai (p_aload_n (pc := 62) (k := 1) (by decide +kernel : decode k_R_looks.2.1 62 = .ok (.aload_n 0, 1)) rfl rfl) ?_
  refine ai (p_aload_n (pc := 63) (k := 1) (by decide +kernel : decode k_R_looks.2.1 63 = .ok (.aload_n 0, 1)) rfl rfl) ?_
  refine ai (p_getr (pc := 64) (RR_1596_0 hL) (by decide +kernel : decode k_R_looks.2.1 64 = .ok (.getfield 134, 3)) lg_12_134 (RC_0 hL).1) ?_
  refine ai (r_iload_n (pc := 67) (k := 2) (by decide +kernel : decode k_R_looks.2.1 67 = .ok (.iload_n 1, 1)) rfl rfl) ?_
  obtain ⟨g11, h⟩ := gd_some h
  refine ai (p_iald (pc := 68) (by decide +kernel : decode k_R_looks.2.1 68 = .ok (.iaload, 1)) (RC_39 hL).1 (RC_39 hL).2 g11) ?_
  refine ai (r_iload_n (pc := 69) (k := 3) (by decide +kernel : decode k_R_looks.2.1 69 = .ok (.iload_n 2, 1)) rfl rfl) ?_
  refine ai (r_iload_n (pc := 70) (k := 4) (by decide +kernel : decode k_R_looks.2.1 70 = .ok (.iload_n 3, 1)) rfl rfl) ?_
  obtain ⟨r12, m13, hr12, h⟩ := bn_some h
  have q14 := R_wetOf_run hL hr12
  have c15 := (RC_0 hL).1
  have hL := q14.2
  refine ai (q_callV (pc := 71) (As := [.int (aI m8 39 (ix x1)), .int x2, .int x3]) (st := [.ref 0]) (st2 := [.int r12, .ref 0]) (b := 0) rfl rfl (by decide +kernel : decode k_R_looks.2.1 71 = .ok (.invokevirtual 579, 3)) lc_12_579 mo_R_wetOf ⟨Nat.le_of_ble_eq_true rfl, Nat.le_of_ble_eq_true rfl⟩ (Nat.le_of_ble_eq_true rfl) (Nat.le_of_ble_eq_true rfl) c15 q14.1) ?_
  have c16 := (RC_0 hL).1
  obtain ⟨m17, hm17, h⟩ := vb_some h
  have hL : RL m17 := by rw [hm17]; exact hL
  refine ai (p_putI (pc := 74) hm17 (by decide +kernel : decode k_R_looks.2.1 74 = .ok (.putfield 543, 3)) lp_12_543 c16) ?_
  refine ai (p_aload_n (pc := 77) (k := 1) (by decide +kernel : decode k_R_looks.2.1 77 = .ok (.aload_n 0, 1)) rfl rfl) ?_
  refine ai (r_iconst (pc := 78) (by decide +kernel : decode k_R_looks.2.1 78 = .ok (.iconst 0, 1)) ic_0) ?_
  have c18 := (RC_0 hL).1
  obtain ⟨m19, hm19, h⟩ := vb_some h
  have hL : RL m19 := by rw [hm19]; exact hL
  refine ai (p_putI (pc := 79) hm19 (by decide +kernel : decode k_R_looks.2.1 79 = .ok (.putfield 540, 3)) lp_12_540 c18) ?_
  refine ai (r_iload_n (pc := 82) (k := 3) (by decide +kernel : decode k_R_looks.2.1 82 = .ok (.iload_n 2, 1)) rfl rfl) ?_
  refine ai (r_iload_n (pc := 83) (k := 3) (by decide +kernel : decode k_R_looks.2.1 83 = .ok (.iload_n 2, 1)) rfl rfl) ?_
  refine ai (r_bipush (pc := 84) (by decide +kernel : decode k_R_looks.2.1 84 = .ok (.bipush (7), 2)) (by decide : _ = (7 : Int32))) ?_
  refine ai (r_irem (pc := 86) (by decide +kernel : decode k_R_looks.2.1 86 = .ok (.irem, 1)) (by decide)) ?_
  refine ai (r_isub (pc := 87) (by decide +kernel : decode k_R_looks.2.1 87 = .ok (.isub, 1))) ?_
  obtain ⟨v20, hv20, h⟩ := vb_some h
  refine ai (e_istore (pc := 88) hv20 (by decide +kernel : decode k_R_looks.2.1 88 = .ok (.istore 5, 2)) (by decide) rfl) ?_
  exact (ai (r_sub [2, 3, 4, 5, 1, 0] rfl) (R_looks_90_run hL h))
set_option maxRecDepth 100000 in
set_option maxHeartbeats 4000000 in
theorem R_looks_run {x1 : Int32} {x2 : Int32} {x3 : Int32} {m m' : Mem} {r : Unit} (hL : RL m) (h : R_looks x1 x2 x3 m = some (r, m')) : Run k_R_looks 0 [(0, .ref 0), (1, .int x1), (2, .int x2), (3, .int x3)] [] m none m' ∧ RL m' := by
  unfold R_looks at h
  refine ai (p_aload_n (pc := 0) (k := 0) (by decide +kernel : decode k_R_looks.2.1 0 = .ok (.aload_n 0, 1)) rfl rfl) ?_
  refine ai (r_iload_n (pc := 1) (k := 2) (by decide +kernel : decode k_R_looks.2.1 1 = .ok (.iload_n 2, 1)) rfl rfl) ?_
  refine ai (p_aload_n (pc := 2) (k := 0) (by decide +kernel : decode k_R_looks.2.1 2 = .ok (.aload_n 0, 1)) rfl rfl) ?_
  refine ai (p_getr (pc := 3) (RR_1596_0 hL) (by decide +kernel : decode k_R_looks.2.1 3 = .ok (.getfield 134, 3)) lg_12_134 (RC_0 hL).1) ?_
  refine ai (r_iload_n (pc := 6) (k := 1) (by decide +kernel : decode k_R_looks.2.1 6 = .ok (.iload_n 1, 1)) rfl rfl) ?_
  obtain ⟨g1, h⟩ := gd_some h
  refine ai (p_iald (pc := 7) (by decide +kernel : decode k_R_looks.2.1 7 = .ok (.iaload, 1)) (RC_39 hL).1 (RC_39 hL).2 g1) ?_
  refine ai (r_iload_n (pc := 8) (k := 3) (by decide +kernel : decode k_R_looks.2.1 8 = .ok (.iload_n 3, 1)) rfl rfl) ?_
  obtain ⟨r2, m3, hr2, h⟩ := bn_some h
  have q4 := R_builds_run hL hr2
  have c5 := (RC_0 hL).1
  have hL := q4.2
  refine ai (q_callV (pc := 9) (As := [.int x2, .int (aI m 39 (ix x1)), .int x3]) (st := []) (st2 := []) (b := 0) rfl rfl (by decide +kernel : decode k_R_looks.2.1 9 = .ok (.invokevirtual 524, 3)) lc_12_524 mo_R_builds ⟨Nat.le_of_ble_eq_true rfl, Nat.le_of_ble_eq_true rfl⟩ (Nat.le_of_ble_eq_true rfl) (Nat.le_of_ble_eq_true rfl) c5 q4.1) ?_
  refine ai (p_aload_n (pc := 12) (k := 0) (by decide +kernel : decode k_R_looks.2.1 12 = .ok (.aload_n 0, 1)) rfl rfl) ?_
  refine ai (r_getI (pc := 13) (by decide +kernel : decode k_R_looks.2.1 13 = .ok (.getfield 203, 3)) lg_12_203 (by decide) (RC_0 hL).1) ?_
  refine ai (r_iload_n (pc := 16) (k := 2) (by decide +kernel : decode k_R_looks.2.1 16 = .ok (.iload_n 2, 1)) rfl rfl) ?_
  rcases ite_some h with ⟨c6, h⟩ | ⟨c6, h⟩
  · refine ai (r_icmp_ne_f (pc := 17) 37 (by decide +kernel : decode k_R_looks.2.1 17 = .ok (.if_icmp .ne (20), 3)) (by decide) c6) ?_
    refine ai (p_aload_n (pc := 20) (k := 0) (by decide +kernel : decode k_R_looks.2.1 20 = .ok (.aload_n 0, 1)) rfl rfl) ?_
    refine ai (r_getI (pc := 21) (by decide +kernel : decode k_R_looks.2.1 21 = .ok (.getfield 573, 3)) lg_12_573 (by decide) (RC_0 hL).1) ?_
    refine ai (r_iload_n (pc := 24) (k := 1) (by decide +kernel : decode k_R_looks.2.1 24 = .ok (.iload_n 1, 1)) rfl rfl) ?_
    rcases ite_some h with ⟨c7, h⟩ | ⟨c7, h⟩
    · refine ai (r_icmp_ne_f (pc := 25) 37 (by decide +kernel : decode k_R_looks.2.1 25 = .ok (.if_icmp .ne (12), 3)) (by decide) c7) ?_
      refine ai (p_aload_n (pc := 28) (k := 0) (by decide +kernel : decode k_R_looks.2.1 28 = .ok (.aload_n 0, 1)) rfl rfl) ?_
      refine ai (r_getI (pc := 29) (by decide +kernel : decode k_R_looks.2.1 29 = .ok (.getfield 576, 3)) lg_12_576 (by decide) (RC_0 hL).1) ?_
      refine ai (r_iload_n (pc := 32) (k := 3) (by decide +kernel : decode k_R_looks.2.1 32 = .ok (.iload_n 3, 1)) rfl rfl) ?_
      rcases ite_some h with ⟨c8, h⟩ | ⟨c8, h⟩
      · refine ai (r_icmp_ne_f (pc := 33) 37 (by decide +kernel : decode k_R_looks.2.1 33 = .ok (.if_icmp .ne (4), 3)) (by decide) c8) ?_
        cases h
        exact ⟨r_vret rfl (by decide +kernel : decode k_R_looks.2.1 36 = .ok (.return_, 1)), hL⟩
      · refine ai (r_icmp_ne_t (pc := 33) (tgt := 37) (by decide +kernel : decode k_R_looks.2.1 33 = .ok (.if_icmp .ne (4), 3)) (by decide) c8) ?_
        exact (R_looks_37_run hL h)
    · refine ai (r_icmp_ne_t (pc := 25) (tgt := 37) (by decide +kernel : decode k_R_looks.2.1 25 = .ok (.if_icmp .ne (12), 3)) (by decide) c7) ?_
      exact (R_looks_37_run hL h)
  · refine ai (r_icmp_ne_t (pc := 17) (tgt := 37) (by decide +kernel : decode k_R_looks.2.1 17 = .ok (.if_icmp .ne (20), 3)) (by decide) c6) ?_
    exact (R_looks_37_run hL h)
set_option maxRecDepth 100000 in
set_option maxHeartbeats 4000000 in
theorem R_bound_run {x1 : Int32} {x2 : Int32} {x3 : Int32} {x4 : Int32} {m m' : Mem} {r : Int32} (hL : RL m) (h : R_bound x1 x2 x3 x4 m = some (r, m')) : Run k_R_bound 0 [(0, .ref 0), (1, .int x1), (2, .int x2), (3, .int x3), (4, .int x4)] [] m (some (.int r)) m' ∧ RL m' := by
  unfold R_bound at h
  refine ai (p_aload_n (pc := 0) (k := 0) (by decide +kernel : decode k_R_bound.2.1 0 = .ok (.aload_n 0, 1)) rfl rfl) ?_
  refine ai (r_iload_n (pc := 1) (k := 1) (by decide +kernel : decode k_R_bound.2.1 1 = .ok (.iload_n 1, 1)) rfl rfl) ?_
  refine ai (r_iload_n (pc := 2) (k := 2) (by decide +kernel : decode k_R_bound.2.1 2 = .ok (.iload_n 2, 1)) rfl rfl) ?_
  refine ai (r_iload_n (pc := 3) (k := 3) (by decide +kernel : decode k_R_bound.2.1 3 = .ok (.iload_n 3, 1)) rfl rfl) ?_
  refine ai (r_iload (pc := 4) (k := 4) (by decide +kernel : decode k_R_bound.2.1 4 = .ok (.iload 4, 2)) rfl) ?_
  obtain ⟨r1, m2, hr1, h⟩ := bn_some h
  have q3 := R_isHalf_run hL hr1
  have c4 := (RC_0 hL).1
  have hL := q3.2
  refine ai (q_callV (pc := 6) (As := [.int x1, .int x2, .int x3, .int x4]) (st := []) (st2 := [.int r1]) (b := 0) rfl rfl (by decide +kernel : decode k_R_bound.2.1 6 = .ok (.invokevirtual 598, 3)) lc_12_598 mo_R_isHalf ⟨Nat.le_of_ble_eq_true rfl, Nat.le_of_ble_eq_true rfl⟩ (Nat.le_of_ble_eq_true rfl) (Nat.le_of_ble_eq_true rfl) c4 q3.1) ?_
  rcases ite_some h with ⟨c5, h⟩ | ⟨c5, h⟩
  · refine ai (r_if_ne_f (pc := 9) 14 (by decide +kernel : decode k_R_bound.2.1 9 = .ok (.ifCond .ne (5), 3)) (by decide) c5) ?_
    refine ai (r_iconst (pc := 12) (by decide +kernel : decode k_R_bound.2.1 12 = .ok (.iconst (-1), 1)) ic_m1) ?_
    cases h
    exact ⟨r_iret rfl (by decide +kernel : decode k_R_bound.2.1 13 = .ok (.ireturn, 1)), hL⟩
  · refine ai (r_if_ne_t (pc := 9) (tgt := 14) (by decide +kernel : decode k_R_bound.2.1 9 = .ok (.ifCond .ne (5), 3)) (by decide) c5) ?_
    refine ai (p_aload_n (pc := 14) (k := 0) (by decide +kernel : decode k_R_bound.2.1 14 = .ok (.aload_n 0, 1)) rfl rfl) ?_
    refine ai (r_iload_n (pc := 15) (k := 1) (by decide +kernel : decode k_R_bound.2.1 15 = .ok (.iload_n 1, 1)) rfl rfl) ?_
    refine ai (r_iload_n (pc := 16) (k := 2) (by decide +kernel : decode k_R_bound.2.1 16 = .ok (.iload_n 2, 1)) rfl rfl) ?_
    refine ai (r_iload (pc := 17) (k := 4) (by decide +kernel : decode k_R_bound.2.1 17 = .ok (.iload 4, 2)) rfl) ?_
    obtain ⟨r6, m7, hr6, h⟩ := bn_some h
    have q8 := R_looks_run hL hr6
    have c9 := (RC_0 hL).1
    have hL := q8.2
    refine ai (q_callV (pc := 19) (As := [.int x1, .int x2, .int x4]) (st := []) (st2 := []) (b := 0) rfl rfl (by decide +kernel : decode k_R_bound.2.1 19 = .ok (.invokevirtual 601, 3)) lc_12_601 mo_R_looks ⟨Nat.le_of_ble_eq_true rfl, Nat.le_of_ble_eq_true rfl⟩ (Nat.le_of_ble_eq_true rfl) (Nat.le_of_ble_eq_true rfl) c9 q8.1) ?_
    refine ai (p_aload_n (pc := 22) (k := 0) (by decide +kernel : decode k_R_bound.2.1 22 = .ok (.aload_n 0, 1)) rfl rfl) ?_
    refine ai (p_getr (pc := 23) (RR_1632_0 hL) (by decide +kernel : decode k_R_bound.2.1 23 = .ok (.getfield 212, 3)) lg_12_212 (RC_0 hL).1) ?_
    refine ai (r_iload_n (pc := 26) (k := 3) (by decide +kernel : decode k_R_bound.2.1 26 = .ok (.iload_n 3, 1)) rfl rfl) ?_
    obtain ⟨g10, h⟩ := gd_some h
    refine ai (p_iald (pc := 27) (by decide +kernel : decode k_R_bound.2.1 27 = .ok (.iaload, 1)) (RC_62 hL).1 (RC_62 hL).2 g10) ?_
    rcases ite_some h with ⟨c11, h⟩ | ⟨c11, h⟩
    · refine ai (r_if_ge_t (pc := 28) (tgt := 40) (by decide +kernel : decode k_R_bound.2.1 28 = .ok (.ifCond .ge (12), 3)) (by decide) c11) ?_
      refine ai (p_aload_n (pc := 40) (k := 0) (by decide +kernel : decode k_R_bound.2.1 40 = .ok (.aload_n 0, 1)) rfl rfl) ?_
      refine ai (p_getr (pc := 41) (RR_1559_0 hL) (by decide +kernel : decode k_R_bound.2.1 41 = .ok (.getfield 52, 3)) lg_12_52 (RC_0 hL).1) ?_
      refine ai (p_aload_n (pc := 44) (k := 0) (by decide +kernel : decode k_R_bound.2.1 44 = .ok (.aload_n 0, 1)) rfl rfl) ?_
      refine ai (p_getr (pc := 45) (RR_1632_0 hL) (by decide +kernel : decode k_R_bound.2.1 45 = .ok (.getfield 212, 3)) lg_12_212 (RC_0 hL).1) ?_
      refine ai (r_iload_n (pc := 48) (k := 3) (by decide +kernel : decode k_R_bound.2.1 48 = .ok (.iload_n 3, 1)) rfl rfl) ?_
      obtain ⟨g12, h⟩ := gd_some h
      refine ai (p_iald (pc := 49) (by decide +kernel : decode k_R_bound.2.1 49 = .ok (.iaload, 1)) (RC_62 hL).1 (RC_62 hL).2 g12) ?_
      obtain ⟨g13, h⟩ := gd_some h
      refine ai (p_iald (pc := 50) (by decide +kernel : decode k_R_bound.2.1 50 = .ok (.iaload, 1)) (RC_12 hL).1 (RC_12 hL).2 g13) ?_
      cases h
      exact ⟨r_iret rfl (by decide +kernel : decode k_R_bound.2.1 51 = .ok (.ireturn, 1)), hL⟩
    · refine ai (r_if_ge_f (pc := 28) 40 (by decide +kernel : decode k_R_bound.2.1 28 = .ok (.ifCond .ge (12), 3)) (by decide) c11) ?_
      refine ai (p_aload_n (pc := 31) (k := 0) (by decide +kernel : decode k_R_bound.2.1 31 = .ok (.aload_n 0, 1)) rfl rfl) ?_
      refine ai (p_getr (pc := 32) (RR_1632_0 hL) (by decide +kernel : decode k_R_bound.2.1 32 = .ok (.getfield 212, 3)) lg_12_212 (RC_0 hL).1) ?_
      refine ai (r_iload_n (pc := 35) (k := 3) (by decide +kernel : decode k_R_bound.2.1 35 = .ok (.iload_n 3, 1)) rfl rfl) ?_
      obtain ⟨g14, h⟩ := gd_some h
      refine ai (p_iald (pc := 36) (by decide +kernel : decode k_R_bound.2.1 36 = .ok (.iaload, 1)) (RC_62 hL).1 (RC_62 hL).2 g14) ?_
      refine ai (r_goto (pc := 37) (tgt := 51) (by decide +kernel : decode k_R_bound.2.1 37 = .ok (.goto (14), 3)) (by decide)) ?_
      cases h
      exact ⟨r_iret rfl (by decide +kernel : decode k_R_bound.2.1 51 = .ok (.ireturn, 1)), hL⟩
set_option maxRecDepth 100000 in
set_option maxHeartbeats 4000000 in
theorem R_classed_run {x1 : Int32} {x2 : Int32} {x3 : Int32} {x4 : Int32} {m m' : Mem} {r : Int32} (hL : RL m) (h : R_classed x1 x2 x3 x4 m = some (r, m')) : Run k_R_classed 0 [(0, .ref 0), (1, .int x1), (2, .int x2), (3, .int x3), (4, .int x4)] [] m (some (.int r)) m' ∧ RL m' := by
  unfold R_classed at h
  refine ai (p_aload_n (pc := 0) (k := 0) (by decide +kernel : decode k_R_classed.2.1 0 = .ok (.aload_n 0, 1)) rfl rfl) ?_
  refine ai (r_iload_n (pc := 1) (k := 1) (by decide +kernel : decode k_R_classed.2.1 1 = .ok (.iload_n 1, 1)) rfl rfl) ?_
  refine ai (r_iload_n (pc := 2) (k := 2) (by decide +kernel : decode k_R_classed.2.1 2 = .ok (.iload_n 2, 1)) rfl rfl) ?_
  refine ai (r_iload_n (pc := 3) (k := 3) (by decide +kernel : decode k_R_classed.2.1 3 = .ok (.iload_n 3, 1)) rfl rfl) ?_
  refine ai (r_iload (pc := 4) (k := 4) (by decide +kernel : decode k_R_classed.2.1 4 = .ok (.iload 4, 2)) rfl) ?_
  obtain ⟨r1, m2, hr1, h⟩ := bn_some h
  have q3 := R_isHalf_run hL hr1
  have c4 := (RC_0 hL).1
  have hL := q3.2
  refine ai (q_callV (pc := 6) (As := [.int x1, .int x2, .int x3, .int x4]) (st := []) (st2 := [.int r1]) (b := 0) rfl rfl (by decide +kernel : decode k_R_classed.2.1 6 = .ok (.invokevirtual 598, 3)) lc_12_598 mo_R_isHalf ⟨Nat.le_of_ble_eq_true rfl, Nat.le_of_ble_eq_true rfl⟩ (Nat.le_of_ble_eq_true rfl) (Nat.le_of_ble_eq_true rfl) c4 q3.1) ?_
  rcases ite_some h with ⟨c5, h⟩ | ⟨c5, h⟩
  · refine ai (r_if_ne_f (pc := 9) 14 (by decide +kernel : decode k_R_classed.2.1 9 = .ok (.ifCond .ne (5), 3)) (by decide) c5) ?_
    refine ai (r_iconst (pc := 12) (by decide +kernel : decode k_R_classed.2.1 12 = .ok (.iconst (-1), 1)) ic_m1) ?_
    cases h
    exact ⟨r_iret rfl (by decide +kernel : decode k_R_classed.2.1 13 = .ok (.ireturn, 1)), hL⟩
  · refine ai (r_if_ne_t (pc := 9) (tgt := 14) (by decide +kernel : decode k_R_classed.2.1 9 = .ok (.ifCond .ne (5), 3)) (by decide) c5) ?_
    refine ai (p_aload_n (pc := 14) (k := 0) (by decide +kernel : decode k_R_classed.2.1 14 = .ok (.aload_n 0, 1)) rfl rfl) ?_
    refine ai (r_iload_n (pc := 15) (k := 1) (by decide +kernel : decode k_R_classed.2.1 15 = .ok (.iload_n 1, 1)) rfl rfl) ?_
    refine ai (r_iload_n (pc := 16) (k := 2) (by decide +kernel : decode k_R_classed.2.1 16 = .ok (.iload_n 2, 1)) rfl rfl) ?_
    refine ai (r_iload (pc := 17) (k := 4) (by decide +kernel : decode k_R_classed.2.1 17 = .ok (.iload 4, 2)) rfl) ?_
    obtain ⟨r6, m7, hr6, h⟩ := bn_some h
    have q8 := R_looks_run hL hr6
    have c9 := (RC_0 hL).1
    have hL := q8.2
    refine ai (q_callV (pc := 19) (As := [.int x1, .int x2, .int x4]) (st := []) (st2 := []) (b := 0) rfl rfl (by decide +kernel : decode k_R_classed.2.1 19 = .ok (.invokevirtual 601, 3)) lc_12_601 mo_R_looks ⟨Nat.le_of_ble_eq_true rfl, Nat.le_of_ble_eq_true rfl⟩ (Nat.le_of_ble_eq_true rfl) (Nat.le_of_ble_eq_true rfl) c9 q8.1) ?_
    refine ai (p_aload_n (pc := 22) (k := 0) (by decide +kernel : decode k_R_classed.2.1 22 = .ok (.aload_n 0, 1)) rfl rfl) ?_
    refine ai (p_getr (pc := 23) (RR_1632_0 hL) (by decide +kernel : decode k_R_classed.2.1 23 = .ok (.getfield 212, 3)) lg_12_212 (RC_0 hL).1) ?_
    refine ai (r_iload_n (pc := 26) (k := 3) (by decide +kernel : decode k_R_classed.2.1 26 = .ok (.iload_n 3, 1)) rfl rfl) ?_
    obtain ⟨g10, h⟩ := gd_some h
    refine ai (p_iald (pc := 27) (by decide +kernel : decode k_R_classed.2.1 27 = .ok (.iaload, 1)) (RC_62 hL).1 (RC_62 hL).2 g10) ?_
    rcases ite_some h with ⟨c11, h⟩ | ⟨c11, h⟩
    · refine ai (r_if_lt_t (pc := 28) (tgt := 41) (by decide +kernel : decode k_R_classed.2.1 28 = .ok (.ifCond .lt (13), 3)) (by decide) c11) ?_
      refine ai (r_iconst (pc := 41) (by decide +kernel : decode k_R_classed.2.1 41 = .ok (.iconst (-1), 1)) ic_m1) ?_
      refine ai (r_goto (pc := 42) (tgt := 61) (by decide +kernel : decode k_R_classed.2.1 42 = .ok (.goto (19), 3)) (by decide)) ?_
      cases h
      exact ⟨r_iret rfl (by decide +kernel : decode k_R_classed.2.1 61 = .ok (.ireturn, 1)), hL⟩
    · refine ai (r_if_lt_f (pc := 28) 41 (by decide +kernel : decode k_R_classed.2.1 28 = .ok (.ifCond .lt (13), 3)) (by decide) c11) ?_
      refine ai (p_aload_n (pc := 31) (k := 0) (by decide +kernel : decode k_R_classed.2.1 31 = .ok (.aload_n 0, 1)) rfl rfl) ?_
      refine ai (p_getr (pc := 32) (RR_1633_0 hL) (by decide +kernel : decode k_R_classed.2.1 32 = .ok (.getfield 215, 3)) lg_12_215 (RC_0 hL).1) ?_
      refine ai (r_iload_n (pc := 35) (k := 3) (by decide +kernel : decode k_R_classed.2.1 35 = .ok (.iload_n 3, 1)) rfl rfl) ?_
      obtain ⟨g12, h⟩ := gd_some h
      refine ai (p_iald (pc := 36) (by decide +kernel : decode k_R_classed.2.1 36 = .ok (.iaload, 1)) (RC_63 hL).1 (RC_63 hL).2 g12) ?_
      refine ai (r_iconst (pc := 37) (by decide +kernel : decode k_R_classed.2.1 37 = .ok (.iconst (-1), 1)) ic_m1) ?_
      rcases ite_some h with ⟨c13, h⟩ | ⟨c13, h⟩
      · refine ai (r_icmp_ne_f (pc := 38) 45 (by decide +kernel : decode k_R_classed.2.1 38 = .ok (.if_icmp .ne (7), 3)) (by decide) c13) ?_
        refine ai (r_iconst (pc := 41) (by decide +kernel : decode k_R_classed.2.1 41 = .ok (.iconst (-1), 1)) ic_m1) ?_
        refine ai (r_goto (pc := 42) (tgt := 61) (by decide +kernel : decode k_R_classed.2.1 42 = .ok (.goto (19), 3)) (by decide)) ?_
        cases h
        exact ⟨r_iret rfl (by decide +kernel : decode k_R_classed.2.1 61 = .ok (.ireturn, 1)), hL⟩
      · refine ai (r_icmp_ne_t (pc := 38) (tgt := 45) (by decide +kernel : decode k_R_classed.2.1 38 = .ok (.if_icmp .ne (7), 3)) (by decide) c13) ?_
        refine ai (p_aload_n (pc := 45) (k := 0) (by decide +kernel : decode k_R_classed.2.1 45 = .ok (.aload_n 0, 1)) rfl rfl) ?_
        refine ai (p_getr (pc := 46) (RR_1563_0 hL) (by decide +kernel : decode k_R_classed.2.1 46 = .ok (.getfield 64, 3)) lg_12_64 (RC_0 hL).1) ?_
        refine ai (p_aload_n (pc := 49) (k := 0) (by decide +kernel : decode k_R_classed.2.1 49 = .ok (.aload_n 0, 1)) rfl rfl) ?_
        refine ai (p_getr (pc := 50) (RR_1617_0 hL) (by decide +kernel : decode k_R_classed.2.1 50 = .ok (.getfield 182, 3)) lg_12_182 (RC_0 hL).1) ?_
        refine ai (p_aload_n (pc := 53) (k := 0) (by decide +kernel : decode k_R_classed.2.1 53 = .ok (.aload_n 0, 1)) rfl rfl) ?_
        refine ai (p_getr (pc := 54) (RR_1633_0 hL) (by decide +kernel : decode k_R_classed.2.1 54 = .ok (.getfield 215, 3)) lg_12_215 (RC_0 hL).1) ?_
        refine ai (r_iload_n (pc := 57) (k := 3) (by decide +kernel : decode k_R_classed.2.1 57 = .ok (.iload_n 3, 1)) rfl rfl) ?_
        obtain ⟨g14, h⟩ := gd_some h
        refine ai (p_iald (pc := 58) (by decide +kernel : decode k_R_classed.2.1 58 = .ok (.iaload, 1)) (RC_63 hL).1 (RC_63 hL).2 g14) ?_
        obtain ⟨g15, h⟩ := gd_some h
        refine ai (p_iald (pc := 59) (by decide +kernel : decode k_R_classed.2.1 59 = .ok (.iaload, 1)) (RC_54 hL).1 (RC_54 hL).2 g15) ?_
        obtain ⟨g16, h⟩ := gd_some h
        refine ai (p_iald (pc := 60) (by decide +kernel : decode k_R_classed.2.1 60 = .ok (.iaload, 1)) (RC_16 hL).1 (RC_16 hL).2 g16) ?_
        cases h
        exact ⟨r_iret rfl (by decide +kernel : decode k_R_classed.2.1 61 = .ok (.ireturn, 1)), hL⟩
set_option maxRecDepth 100000 in
set_option maxHeartbeats 4000000 in
theorem R_bits_4_run {n : Nat} {x0 : Int32} {x1 : Int32} {x2 : Int32} {m : Mem} {r : Int32} (h : R_bits_4 n x0 x1 x2 = some r) : Run k_R_bits 4 [(0, .int x0), (1, .int x1), (2, .int x2)] [] m (some (.int r)) m := by
  induction n generalizing x0 x1 x2 r with
  | zero => exact absurd h (by simp [R_bits_4])
  | succ n ih =>
    rw [R_bits_4.eq_2] at h
    refine (r_iload_n (pc := 4) (k := 2) (by decide +kernel : decode k_R_bits.2.1 4 = .ok (.iload_n 2, 1)) rfl rfl) ?_
    refine (r_bipush (pc := 5) (by decide +kernel : decode k_R_bits.2.1 5 = .ok (.bipush (16), 2)) (by decide : _ = (16 : Int32))) ?_
    rcases ite_some h with ⟨c1, h⟩ | ⟨c1, h⟩
    · refine (r_icmp_ge_t (pc := 7) (tgt := 24) (by decide +kernel : decode k_R_bits.2.1 7 = .ok (.if_icmp .ge (17), 3)) (by decide) c1) ?_
      refine (r_iload_n (pc := 24) (k := 1) (by decide +kernel : decode k_R_bits.2.1 24 = .ok (.iload_n 1, 1)) rfl rfl) ?_
      cases h
      exact r_iret rfl (by decide +kernel : decode k_R_bits.2.1 25 = .ok (.ireturn, 1))
    · refine (r_icmp_ge_f (pc := 7) 24 (by decide +kernel : decode k_R_bits.2.1 7 = .ok (.if_icmp .ge (17), 3)) (by decide) c1) ?_
      refine (r_iload_n (pc := 10) (k := 1) (by decide +kernel : decode k_R_bits.2.1 10 = .ok (.iload_n 1, 1)) rfl rfl) ?_
      refine (r_iload_n (pc := 11) (k := 0) (by decide +kernel : decode k_R_bits.2.1 11 = .ok (.iload_n 0, 1)) rfl rfl) ?_
      refine (r_iload_n (pc := 12) (k := 2) (by decide +kernel : decode k_R_bits.2.1 12 = .ok (.iload_n 2, 1)) rfl rfl) ?_
      refine (r_ishr (pc := 13) (by decide +kernel : decode k_R_bits.2.1 13 = .ok (.ishr, 1))) ?_
      refine (r_iconst (pc := 14) (by decide +kernel : decode k_R_bits.2.1 14 = .ok (.iconst 1, 1)) ic_1) ?_
      refine (r_iand (pc := 15) (by decide +kernel : decode k_R_bits.2.1 15 = .ok (.iand, 1))) ?_
      refine (r_iadd (pc := 16) (by decide +kernel : decode k_R_bits.2.1 16 = .ok (.iadd, 1))) ?_
      obtain ⟨v2, hv2, h⟩ := vb_some h
      refine (e_istore_n (pc := 17) hv2 (by decide +kernel : decode k_R_bits.2.1 17 = .ok (.istore_n 1, 1)) rfl (by decide) rfl) ?_
      obtain ⟨v3, hv3, h⟩ := vb_some h
      refine (e_iinc (pc := 18) (k := 2) hv3 ic_1 (by decide +kernel : decode k_R_bits.2.1 18 = .ok (.iinc 2 (1), 3)) rfl (by decide) rfl) ?_
      refine (r_goto (pc := 21) (tgt := 4) (by decide +kernel : decode k_R_bits.2.1 21 = .ok (.goto (-17), 3)) (by decide)) ?_
      exact (r_sub [2, 1, 0] rfl (ih h))
set_option maxRecDepth 100000 in
set_option maxHeartbeats 4000000 in
theorem R_bits_run {x0 : Int32} {m : Mem} {r : Int32} (h : R_bits x0 = some r) : Run k_R_bits 0 [(0, .int x0)] [] m (some (.int r)) m := by
  unfold R_bits at h
  refine (r_iconst (pc := 0) (by decide +kernel : decode k_R_bits.2.1 0 = .ok (.iconst 0, 1)) ic_0) ?_
  refine (e_istore_n (pc := 1) rfl (by decide +kernel : decode k_R_bits.2.1 1 = .ok (.istore_n 1, 1)) rfl (by decide) rfl) ?_
  refine (r_iconst (pc := 2) (by decide +kernel : decode k_R_bits.2.1 2 = .ok (.iconst 0, 1)) ic_0) ?_
  refine (e_istore_n (pc := 3) rfl (by decide +kernel : decode k_R_bits.2.1 3 = .ok (.istore_n 2, 1)) rfl (by decide) rfl) ?_
  exact (r_sub [2, 1, 0] rfl (R_bits_4_run h))
set_option maxRecDepth 100000 in
set_option maxHeartbeats 4000000 in
theorem R_nearest_179_run {k60 : Int32 → Int32 → Int32 → Int32 → Int32 → Mem → Option (Int32 × Mem)} {x3 : Int32} {x5 : Int32} {x6 : Int32} {x7 : Int32} {x8 : Int32} {m m' : Mem} {r : Int32} (hk60 : ∀ (x3 : Int32) (x5 : Int32) (x6 : Int32) (x7 : Int32) (x8 : Int32) (m : Mem) (r : Int32) (m' : Mem), RL m → k60 x3 x5 x6 x7 x8 m = some (r, m') → Run k_R_nearest 60 [(0, .ref 0), (3, .int x3), (5, .int x5), (6, .int x6), (7, .int x7), (8, .int x8)] [] m (some (.int r)) m' ∧ RL m') (hL : RL m) (h : R_nearest_179 k60 x3 x5 x6 x7 x8 m = some (r, m')) : Run k_R_nearest 179 [(0, .ref 0), (3, .int x3), (5, .int x5), (6, .int x6), (7, .int x7), (8, .int x8)] [] m (some (.int r)) m' ∧ RL m' := by
  unfold R_nearest_179 at h
  obtain ⟨v1, hv1, h⟩ := vb_some h
  refine ai (e_iinc (pc := 179) (k := 5) hv1 ic_1 (by decide +kernel : decode k_R_nearest.2.1 179 = .ok (.iinc 8 (1), 3)) rfl (by decide) rfl) ?_
  refine ai (r_goto (pc := 182) (tgt := 60) (by decide +kernel : decode k_R_nearest.2.1 182 = .ok (.goto (-122), 3)) (by decide)) ?_
  exact (ai (r_sub [1, 2, 3, 4, 5, 0] rfl) (hk60 x3 x5 x6 x7 v1 m _ _ hL h))
set_option maxRecDepth 100000 in
set_option maxHeartbeats 4000000 in
theorem R_nearest_173_run {k60 : Int32 → Int32 → Int32 → Int32 → Int32 → Mem → Option (Int32 × Mem)} {k104 : Int32 → Int32 → Int32 → Int32 → Int32 → Int32 → Int32 → Mem → Option (Int32 × Mem)} {x3 : Int32} {x5 : Int32} {x6 : Int32} {x7 : Int32} {x8 : Int32} {x9 : Int32} {x10 : Int32} {m m' : Mem} {r : Int32} (hk60 : ∀ (x3 : Int32) (x5 : Int32) (x6 : Int32) (x7 : Int32) (x8 : Int32) (m : Mem) (r : Int32) (m' : Mem), RL m → k60 x3 x5 x6 x7 x8 m = some (r, m') → Run k_R_nearest 60 [(0, .ref 0), (3, .int x3), (5, .int x5), (6, .int x6), (7, .int x7), (8, .int x8)] [] m (some (.int r)) m' ∧ RL m') (hk104 : ∀ (x3 : Int32) (x5 : Int32) (x6 : Int32) (x7 : Int32) (x8 : Int32) (x9 : Int32) (x10 : Int32) (m : Mem) (r : Int32) (m' : Mem), RL m → k104 x3 x5 x6 x7 x8 x9 x10 m = some (r, m') → Run k_R_nearest 104 [(0, .ref 0), (3, .int x3), (5, .int x5), (6, .int x6), (7, .int x7), (8, .int x8), (9, .int x9), (10, .int x10)] [] m (some (.int r)) m' ∧ RL m') (hL : RL m) (h : R_nearest_173 k60 k104 x3 x5 x6 x7 x8 x9 x10 m = some (r, m')) : Run k_R_nearest 173 [(0, .ref 0), (3, .int x3), (5, .int x5), (6, .int x6), (7, .int x7), (8, .int x8), (9, .int x9), (10, .int x10)] [] m (some (.int r)) m' ∧ RL m' := by
  unfold R_nearest_173 at h
  obtain ⟨v1, hv1, h⟩ := vb_some h
  refine ai (e_iinc (pc := 173) (k := 7) hv1 ic_1 (by decide +kernel : decode k_R_nearest.2.1 173 = .ok (.iinc 10 (1), 3)) rfl (by decide) rfl) ?_
  refine ai (r_goto (pc := 176) (tgt := 104) (by decide +kernel : decode k_R_nearest.2.1 176 = .ok (.goto (-72), 3)) (by decide)) ?_
  exact (ai (r_sub [1, 2, 3, 4, 5, 6, 7, 0] rfl) (hk104 x3 x5 x6 x7 x8 x9 v1 m _ _ hL h))
set_option maxRecDepth 100000 in
set_option maxHeartbeats 4000000 in
theorem R_nearest_153_run {k60 : Int32 → Int32 → Int32 → Int32 → Int32 → Mem → Option (Int32 × Mem)} {k104 : Int32 → Int32 → Int32 → Int32 → Int32 → Int32 → Int32 → Mem → Option (Int32 × Mem)} {x3 : Int32} {x5 : Int32} {x6 : Int32} {x7 : Int32} {x8 : Int32} {x9 : Int32} {x10 : Int32} {s0 : Int32} {m m' : Mem} {r : Int32} (hk60 : ∀ (x3 : Int32) (x5 : Int32) (x6 : Int32) (x7 : Int32) (x8 : Int32) (m : Mem) (r : Int32) (m' : Mem), RL m → k60 x3 x5 x6 x7 x8 m = some (r, m') → Run k_R_nearest 60 [(0, .ref 0), (3, .int x3), (5, .int x5), (6, .int x6), (7, .int x7), (8, .int x8)] [] m (some (.int r)) m' ∧ RL m') (hk104 : ∀ (x3 : Int32) (x5 : Int32) (x6 : Int32) (x7 : Int32) (x8 : Int32) (x9 : Int32) (x10 : Int32) (m : Mem) (r : Int32) (m' : Mem), RL m → k104 x3 x5 x6 x7 x8 x9 x10 m = some (r, m') → Run k_R_nearest 104 [(0, .ref 0), (3, .int x3), (5, .int x5), (6, .int x6), (7, .int x7), (8, .int x8), (9, .int x9), (10, .int x10)] [] m (some (.int r)) m' ∧ RL m') (hL : RL m) (h : R_nearest_153 k60 k104 x3 x5 x6 x7 x8 x9 x10 s0 m = some (r, m')) : Run k_R_nearest 153 [(0, .ref 0), (3, .int x3), (5, .int x5), (6, .int x6), (7, .int x7), (8, .int x8), (9, .int x9), (10, .int x10)] [.int s0] m (some (.int r)) m' ∧ RL m' := by
  unfold R_nearest_153 at h
  refine ai (e_istore (pc := 153) rfl (by decide +kernel : decode k_R_nearest.2.1 153 = .ok (.istore 11, 2)) (by decide) rfl) ?_
  refine ai (r_iload (pc := 155) (k := 0) (by decide +kernel : decode k_R_nearest.2.1 155 = .ok (.iload 11, 2)) rfl) ?_
  refine ai (r_iload (pc := 157) (k := 5) (by decide +kernel : decode k_R_nearest.2.1 157 = .ok (.iload 7, 2)) rfl) ?_
  rcases ite_some h with ⟨c1, h⟩ | ⟨c1, h⟩
  · refine ai (r_icmp_gt_t (pc := 159) (tgt := 165) (by decide +kernel : decode k_R_nearest.2.1 159 = .ok (.if_icmp .gt (6), 3)) (by decide) c1) ?_
    refine ai (r_iload (pc := 165) (k := 7) (by decide +kernel : decode k_R_nearest.2.1 165 = .ok (.iload 9, 2)) rfl) ?_
    refine ai (e_istore (pc := 167) rfl (by decide +kernel : decode k_R_nearest.2.1 167 = .ok (.istore 6, 2)) (by decide) rfl) ?_
    refine ai (r_iload (pc := 169) (k := 1) (by decide +kernel : decode k_R_nearest.2.1 169 = .ok (.iload 11, 2)) rfl) ?_
    refine ai (e_istore (pc := 171) rfl (by decide +kernel : decode k_R_nearest.2.1 171 = .ok (.istore 7, 2)) (by decide) rfl) ?_
    exact (ai (r_sub [3, 4, 5, 1, 0, 6, 7, 8] rfl) (R_nearest_173_run hk60 hk104 hL h))
  · refine ai (r_icmp_gt_f (pc := 159) 165 (by decide +kernel : decode k_R_nearest.2.1 159 = .ok (.if_icmp .gt (6), 3)) (by decide) c1) ?_
    refine ai (r_goto (pc := 162) (tgt := 173) (by decide +kernel : decode k_R_nearest.2.1 162 = .ok (.goto (11), 3)) (by decide)) ?_
    exact (ai (r_sub [1, 2, 3, 4, 5, 6, 7, 8] rfl) (R_nearest_173_run hk60 hk104 hL h))
set_option maxRecDepth 100000 in
set_option maxHeartbeats 4000000 in
theorem R_nearest_104_run {k60 : Int32 → Int32 → Int32 → Int32 → Int32 → Mem → Option (Int32 × Mem)} {n : Nat} {x3 : Int32} {x5 : Int32} {x6 : Int32} {x7 : Int32} {x8 : Int32} {x9 : Int32} {x10 : Int32} {m m' : Mem} {r : Int32} (hk60 : ∀ (x3 : Int32) (x5 : Int32) (x6 : Int32) (x7 : Int32) (x8 : Int32) (m : Mem) (r : Int32) (m' : Mem), RL m → k60 x3 x5 x6 x7 x8 m = some (r, m') → Run k_R_nearest 60 [(0, .ref 0), (3, .int x3), (5, .int x5), (6, .int x6), (7, .int x7), (8, .int x8)] [] m (some (.int r)) m' ∧ RL m') (hL : RL m) (h : R_nearest_104 k60 n x3 x5 x6 x7 x8 x9 x10 m = some (r, m')) : Run k_R_nearest 104 [(0, .ref 0), (3, .int x3), (5, .int x5), (6, .int x6), (7, .int x7), (8, .int x8), (9, .int x9), (10, .int x10)] [] m (some (.int r)) m' ∧ RL m' := by
  induction n generalizing x3 x5 x6 x7 x8 x9 x10 m r m' with
  | zero => exact absurd h (by simp [R_nearest_104])
  | succ n ih =>
    rw [R_nearest_104.eq_2] at h
    refine ai (r_iload (pc := 104) (k := 7) (by decide +kernel : decode k_R_nearest.2.1 104 = .ok (.iload 10, 2)) rfl) ?_
    refine ai (r_bipush (pc := 106) (by decide +kernel : decode k_R_nearest.2.1 106 = .ok (.bipush (16), 2)) (by decide : _ = (16 : Int32))) ?_
    rcases ite_some h with ⟨c1, h⟩ | ⟨c1, h⟩
    · refine ai (r_icmp_ge_t (pc := 108) (tgt := 179) (by decide +kernel : decode k_R_nearest.2.1 108 = .ok (.if_icmp .ge (71), 3)) (by decide) c1) ?_
      exact (ai (r_sub [0, 1, 2, 3, 4, 5] rfl) (R_nearest_179_run hk60 hL h))
    · refine ai (r_icmp_ge_f (pc := 108) 179 (by decide +kernel : decode k_R_nearest.2.1 108 = .ok (.if_icmp .ge (71), 3)) (by decide) c1) ?_
      refine ai (p_aload_n (pc := 111) (k := 0) (by decide +kernel : decode k_R_nearest.2.1 111 = .ok (.aload_n 0, 1)) rfl rfl) ?_
      refine ai (p_getr (pc := 112) (RR_1564_0 hL) (by decide +kernel : decode k_R_nearest.2.1 112 = .ok (.getfield 67, 3)) lg_12_67 (RC_0 hL).1) ?_
      refine ai (r_iload (pc := 115) (k := 6) (by decide +kernel : decode k_R_nearest.2.1 115 = .ok (.iload 9, 2)) rfl) ?_
      obtain ⟨g2, h⟩ := gd_some h
      refine ai (p_iald (pc := 117) (by decide +kernel : decode k_R_nearest.2.1 117 = .ok (.iaload, 1)) (RC_17 hL).1 (RC_17 hL).2 g2) ?_
      refine ai (r_iload (pc := 118) (k := 7) (by decide +kernel : decode k_R_nearest.2.1 118 = .ok (.iload 10, 2)) rfl) ?_
      refine ai (r_ishr (pc := 120) (by decide +kernel : decode k_R_nearest.2.1 120 = .ok (.ishr, 1))) ?_
      refine ai (r_iconst (pc := 121) (by decide +kernel : decode k_R_nearest.2.1 121 = .ok (.iconst 1, 1)) ic_1) ?_
      refine ai (r_iand (pc := 122) (by decide +kernel : decode k_R_nearest.2.1 122 = .ok (.iand, 1))) ?_
      refine ai (r_iconst (pc := 123) (by decide +kernel : decode k_R_nearest.2.1 123 = .ok (.iconst 1, 1)) ic_1) ?_
      rcases ite_some h with ⟨c3, h⟩ | ⟨c3, h⟩
      · refine ai (r_icmp_ne_f (pc := 124) 152 (by decide +kernel : decode k_R_nearest.2.1 124 = .ok (.if_icmp .ne (28), 3)) (by decide) c3) ?_
        refine ai (p_aload_n (pc := 127) (k := 0) (by decide +kernel : decode k_R_nearest.2.1 127 = .ok (.aload_n 0, 1)) rfl rfl) ?_
        refine ai (p_getr (pc := 128) (RR_1599_0 hL) (by decide +kernel : decode k_R_nearest.2.1 128 = .ok (.getfield 143, 3)) lg_12_143 (RC_0 hL).1) ?_
        refine ai (r_iload (pc := 131) (k := 7) (by decide +kernel : decode k_R_nearest.2.1 131 = .ok (.iload 10, 2)) rfl) ?_
        obtain ⟨g4, h⟩ := gd_some h
        refine ai (p_iald (pc := 133) (by decide +kernel : decode k_R_nearest.2.1 133 = .ok (.iaload, 1)) (RC_42 hL).1 (RC_42 hL).2 g4) ?_
        refine ai (p_aload_n (pc := 134) (k := 0) (by decide +kernel : decode k_R_nearest.2.1 134 = .ok (.aload_n 0, 1)) rfl rfl) ?_
        refine ai (p_getr (pc := 135) (RR_1599_0 hL) (by decide +kernel : decode k_R_nearest.2.1 135 = .ok (.getfield 143, 3)) lg_12_143 (RC_0 hL).1) ?_
        refine ai (p_aload_n (pc := 138) (k := 0) (by decide +kernel : decode k_R_nearest.2.1 138 = .ok (.aload_n 0, 1)) rfl rfl) ?_
        refine ai (p_getr (pc := 139) (RR_1630_0 hL) (by decide +kernel : decode k_R_nearest.2.1 139 = .ok (.getfield 206, 3)) lg_12_206 (RC_0 hL).1) ?_
        refine ai (r_iload_n (pc := 142) (k := 1) (by decide +kernel : decode k_R_nearest.2.1 142 = .ok (.iload_n 3, 1)) rfl rfl) ?_
        obtain ⟨g5, h⟩ := gd_some h
        refine ai (p_iald (pc := 143) (by decide +kernel : decode k_R_nearest.2.1 143 = .ok (.iaload, 1)) (RC_60 hL).1 (RC_60 hL).2 g5) ?_
        obtain ⟨g6, h⟩ := gd_some h
        refine ai (p_iald (pc := 144) (by decide +kernel : decode k_R_nearest.2.1 144 = .ok (.iaload, 1)) (RC_42 hL).1 (RC_42 hL).2 g6) ?_
        refine ai (r_iand (pc := 145) (by decide +kernel : decode k_R_nearest.2.1 145 = .ok (.iand, 1))) ?_
        obtain ⟨r7, hr7, h⟩ := bp_some h
        refine ai (q_callS (pc := 146) (As := [.int ((aI m 42 (ix x10)) &&& (aI m 42 (ix (aI m 60 (ix x3)))))]) (st := []) (st2 := [.int r7]) rfl rfl (by decide +kernel : decode k_R_nearest.2.1 146 = .ok (.invokestatic 604, 3)) lc_12_604 mo_R_bits ⟨Nat.le_of_ble_eq_true rfl, Nat.le_of_ble_eq_true rfl⟩ (Nat.le_of_ble_eq_true rfl) (Nat.le_of_ble_eq_true rfl) (R_bits_run hr7)) ?_
        refine ai (r_goto (pc := 149) (tgt := 153) (by decide +kernel : decode k_R_nearest.2.1 149 = .ok (.goto (4), 3)) (by decide)) ?_
        exact (R_nearest_153_run hk60 (fun _ _ _ _ _ _ _ _ _ _ q1 q3 => ih q1 q3) hL h)
      · refine ai (r_icmp_ne_t (pc := 124) (tgt := 152) (by decide +kernel : decode k_R_nearest.2.1 124 = .ok (.if_icmp .ne (28), 3)) (by decide) c3) ?_
        refine ai (r_iconst (pc := 152) (by decide +kernel : decode k_R_nearest.2.1 152 = .ok (.iconst 0, 1)) ic_0) ?_
        exact (R_nearest_153_run hk60 (fun _ _ _ _ _ _ _ _ _ _ q1 q3 => ih q1 q3) hL h)
set_option maxRecDepth 100000 in
set_option maxHeartbeats 4000000 in
theorem R_nearest_185_run {x6 : Int32} {m m' : Mem} {r : Int32} (hL : RL m) (h : R_nearest_185 x6 m = some (r, m')) : Run k_R_nearest 185 [(0, .ref 0), (6, .int x6)] [] m (some (.int r)) m' ∧ RL m' := by
  unfold R_nearest_185 at h
  refine ai (r_iload (pc := 185) (k := 1) (by decide +kernel : decode k_R_nearest.2.1 185 = .ok (.iload 6, 2)) rfl) ?_
  refine ai (r_iconst (pc := 187) (by decide +kernel : decode k_R_nearest.2.1 187 = .ok (.iconst (-1), 1)) ic_m1) ?_
  rcases ite_some h with ⟨c1, h⟩ | ⟨c1, h⟩
  · refine ai (r_icmp_ne_f (pc := 188) 195 (by decide +kernel : decode k_R_nearest.2.1 188 = .ok (.if_icmp .ne (7), 3)) (by decide) c1) ?_
    refine ai (r_iconst (pc := 191) (by decide +kernel : decode k_R_nearest.2.1 191 = .ok (.iconst (-1), 1)) ic_m1) ?_
    refine ai (r_goto (pc := 192) (tgt := 202) (by decide +kernel : decode k_R_nearest.2.1 192 = .ok (.goto (10), 3)) (by decide)) ?_
    cases h
    exact ⟨r_iret rfl (by decide +kernel : decode k_R_nearest.2.1 202 = .ok (.ireturn, 1)), hL⟩
  · refine ai (r_icmp_ne_t (pc := 188) (tgt := 195) (by decide +kernel : decode k_R_nearest.2.1 188 = .ok (.if_icmp .ne (7), 3)) (by decide) c1) ?_
    refine ai (p_aload_n (pc := 195) (k := 0) (by decide +kernel : decode k_R_nearest.2.1 195 = .ok (.aload_n 0, 1)) rfl rfl) ?_
    refine ai (p_getr (pc := 196) (RR_1563_0 hL) (by decide +kernel : decode k_R_nearest.2.1 196 = .ok (.getfield 64, 3)) lg_12_64 (RC_0 hL).1) ?_
    refine ai (r_iload (pc := 199) (k := 1) (by decide +kernel : decode k_R_nearest.2.1 199 = .ok (.iload 6, 2)) rfl) ?_
    obtain ⟨g2, h⟩ := gd_some h
    refine ai (p_iald (pc := 201) (by decide +kernel : decode k_R_nearest.2.1 201 = .ok (.iaload, 1)) (RC_16 hL).1 (RC_16 hL).2 g2) ?_
    cases h
    exact ⟨r_iret rfl (by decide +kernel : decode k_R_nearest.2.1 202 = .ok (.ireturn, 1)), hL⟩
set_option maxRecDepth 100000 in
set_option maxHeartbeats 4000000 in
theorem R_nearest_60_run {n : Nat} {x3 : Int32} {x5 : Int32} {x6 : Int32} {x7 : Int32} {x8 : Int32} {m m' : Mem} {r : Int32} (hL : RL m) (h : R_nearest_60 n x3 x5 x6 x7 x8 m = some (r, m')) : Run k_R_nearest 60 [(0, .ref 0), (3, .int x3), (5, .int x5), (6, .int x6), (7, .int x7), (8, .int x8)] [] m (some (.int r)) m' ∧ RL m' := by
  induction n generalizing x3 x5 x6 x7 x8 m r m' with
  | zero => exact absurd h (by simp [R_nearest_60])
  | succ n ih =>
    rw [R_nearest_60.eq_2] at h
    refine ai (r_iload (pc := 60) (k := 5) (by decide +kernel : decode k_R_nearest.2.1 60 = .ok (.iload 8, 2)) rfl) ?_
    refine ai (r_bipush (pc := 62) (by decide +kernel : decode k_R_nearest.2.1 62 = .ok (.bipush (64), 2)) (by decide : _ = (64 : Int32))) ?_
    refine ai (r_iload (pc := 64) (k := 2) (by decide +kernel : decode k_R_nearest.2.1 64 = .ok (.iload 5, 2)) rfl) ?_
    refine ai (r_imul (pc := 66) (by decide +kernel : decode k_R_nearest.2.1 66 = .ok (.imul, 1))) ?_
    refine ai (p_aload_n (pc := 67) (k := 0) (by decide +kernel : decode k_R_nearest.2.1 67 = .ok (.aload_n 0, 1)) rfl rfl) ?_
    refine ai (p_getr (pc := 68) (RR_1616_0 hL) (by decide +kernel : decode k_R_nearest.2.1 68 = .ok (.getfield 179, 3)) lg_12_179 (RC_0 hL).1) ?_
    refine ai (r_iload (pc := 71) (k := 2) (by decide +kernel : decode k_R_nearest.2.1 71 = .ok (.iload 5, 2)) rfl) ?_
    obtain ⟨g1, h⟩ := gd_some h
    refine ai (p_iald (pc := 73) (by decide +kernel : decode k_R_nearest.2.1 73 = .ok (.iaload, 1)) (RC_53 hL).1 (RC_53 hL).2 g1) ?_
    refine ai (r_iadd (pc := 74) (by decide +kernel : decode k_R_nearest.2.1 74 = .ok (.iadd, 1))) ?_
    rcases ite_some h with ⟨c2, h⟩ | ⟨c2, h⟩
    · refine ai (r_icmp_ge_t (pc := 75) (tgt := 185) (by decide +kernel : decode k_R_nearest.2.1 75 = .ok (.if_icmp .ge (110), 3)) (by decide) c2) ?_
      exact (ai (r_sub [0, 3] rfl) (R_nearest_185_run hL h))
    · refine ai (r_icmp_ge_f (pc := 75) 185 (by decide +kernel : decode k_R_nearest.2.1 75 = .ok (.if_icmp .ge (110), 3)) (by decide) c2) ?_
      refine ai (p_aload_n (pc := 78) (k := 0) (by decide +kernel : decode k_R_nearest.2.1 78 = .ok (.aload_n 0, 1)) rfl rfl) ?_
      refine ai (p_getr (pc := 79) (RR_1617_0 hL) (by decide +kernel : decode k_R_nearest.2.1 79 = .ok (.getfield 182, 3)) lg_12_182 (RC_0 hL).1) ?_
      refine ai (r_iload (pc := 82) (k := 5) (by decide +kernel : decode k_R_nearest.2.1 82 = .ok (.iload 8, 2)) rfl) ?_
      obtain ⟨g3, h⟩ := gd_some h
      refine ai (p_iald (pc := 84) (by decide +kernel : decode k_R_nearest.2.1 84 = .ok (.iaload, 1)) (RC_54 hL).1 (RC_54 hL).2 g3) ?_
      obtain ⟨v4, hv4, h⟩ := vb_some h
      refine ai (e_istore (pc := 85) hv4 (by decide +kernel : decode k_R_nearest.2.1 85 = .ok (.istore 9, 2)) (by decide) rfl) ?_
      refine ai (p_aload_n (pc := 87) (k := 1) (by decide +kernel : decode k_R_nearest.2.1 87 = .ok (.aload_n 0, 1)) rfl rfl) ?_
      refine ai (p_getr (pc := 88) (RR_1562_0 hL) (by decide +kernel : decode k_R_nearest.2.1 88 = .ok (.getfield 61, 3)) lg_12_61 (RC_0 hL).1) ?_
      refine ai (r_iload (pc := 91) (k := 0) (by decide +kernel : decode k_R_nearest.2.1 91 = .ok (.iload 9, 2)) rfl) ?_
      obtain ⟨g5, h⟩ := gd_some h
      refine ai (p_iald (pc := 93) (by decide +kernel : decode k_R_nearest.2.1 93 = .ok (.iaload, 1)) (RC_15 hL).1 (RC_15 hL).2 g5) ?_
      refine ai (r_iconst (pc := 94) (by decide +kernel : decode k_R_nearest.2.1 94 = .ok (.iconst 2, 1)) ic_2) ?_
      rcases ite_some h with ⟨c6, h⟩ | ⟨c6, h⟩
      · refine ai (r_icmp_eq_t (pc := 95) (tgt := 101) (by decide +kernel : decode k_R_nearest.2.1 95 = .ok (.if_icmp .eq (6), 3)) (by decide) c6) ?_
        refine ai (r_iconst (pc := 101) (by decide +kernel : decode k_R_nearest.2.1 101 = .ok (.iconst 0, 1)) ic_0) ?_
        refine ai (e_istore (pc := 102) rfl (by decide +kernel : decode k_R_nearest.2.1 102 = .ok (.istore 10, 2)) (by decide) rfl) ?_
        exact (ai (r_sub [2, 3, 4, 5, 6, 7, 1, 0] rfl) (R_nearest_104_run (fun _ _ _ _ _ _ _ _ q1 q3 => ih q1 q3) hL h))
      · refine ai (r_icmp_eq_f (pc := 95) 101 (by decide +kernel : decode k_R_nearest.2.1 95 = .ok (.if_icmp .eq (6), 3)) (by decide) c6) ?_
        refine ai (r_goto (pc := 98) (tgt := 179) (by decide +kernel : decode k_R_nearest.2.1 98 = .ok (.goto (81), 3)) (by decide)) ?_
        exact (ai (r_sub [1, 2, 3, 4, 5, 6] rfl) (R_nearest_179_run (fun _ _ _ _ _ _ _ _ q1 q3 => ih q1 q3) hL h))
set_option maxRecDepth 100000 in
set_option maxHeartbeats 4000000 in
theorem R_nearest_run {x1 : Int32} {x2 : Int32} {x3 : Int32} {x4 : Int32} {m m' : Mem} {r : Int32} (hL : RL m) (h : R_nearest x1 x2 x3 x4 m = some (r, m')) : Run k_R_nearest 0 [(0, .ref 0), (1, .int x1), (2, .int x2), (3, .int x3), (4, .int x4)] [] m (some (.int r)) m' ∧ RL m' := by
  unfold R_nearest at h
  refine ai (p_aload_n (pc := 0) (k := 0) (by decide +kernel : decode k_R_nearest.2.1 0 = .ok (.aload_n 0, 1)) rfl rfl) ?_
  refine ai (r_iload_n (pc := 1) (k := 1) (by decide +kernel : decode k_R_nearest.2.1 1 = .ok (.iload_n 1, 1)) rfl rfl) ?_
  refine ai (r_iload_n (pc := 2) (k := 2) (by decide +kernel : decode k_R_nearest.2.1 2 = .ok (.iload_n 2, 1)) rfl rfl) ?_
  refine ai (r_iload_n (pc := 3) (k := 3) (by decide +kernel : decode k_R_nearest.2.1 3 = .ok (.iload_n 3, 1)) rfl rfl) ?_
  refine ai (r_iload (pc := 4) (k := 4) (by decide +kernel : decode k_R_nearest.2.1 4 = .ok (.iload 4, 2)) rfl) ?_
  obtain ⟨r1, m2, hr1, h⟩ := bn_some h
  have q3 := R_isHalf_run hL hr1
  have c4 := (RC_0 hL).1
  have hL := q3.2
  refine ai (q_callV (pc := 6) (As := [.int x1, .int x2, .int x3, .int x4]) (st := []) (st2 := [.int r1]) (b := 0) rfl rfl (by decide +kernel : decode k_R_nearest.2.1 6 = .ok (.invokevirtual 598, 3)) lc_12_598 mo_R_isHalf ⟨Nat.le_of_ble_eq_true rfl, Nat.le_of_ble_eq_true rfl⟩ (Nat.le_of_ble_eq_true rfl) (Nat.le_of_ble_eq_true rfl) c4 q3.1) ?_
  rcases ite_some h with ⟨c5, h⟩ | ⟨c5, h⟩
  · refine ai (r_if_ne_f (pc := 9) 14 (by decide +kernel : decode k_R_nearest.2.1 9 = .ok (.ifCond .ne (5), 3)) (by decide) c5) ?_
    refine ai (r_iconst (pc := 12) (by decide +kernel : decode k_R_nearest.2.1 12 = .ok (.iconst (-1), 1)) ic_m1) ?_
    cases h
    exact ⟨r_iret rfl (by decide +kernel : decode k_R_nearest.2.1 13 = .ok (.ireturn, 1)), hL⟩
  · refine ai (r_if_ne_t (pc := 9) (tgt := 14) (by decide +kernel : decode k_R_nearest.2.1 9 = .ok (.ifCond .ne (5), 3)) (by decide) c5) ?_
    refine ai (p_aload_n (pc := 14) (k := 0) (by decide +kernel : decode k_R_nearest.2.1 14 = .ok (.aload_n 0, 1)) rfl rfl) ?_
    refine ai (r_iload_n (pc := 15) (k := 1) (by decide +kernel : decode k_R_nearest.2.1 15 = .ok (.iload_n 1, 1)) rfl rfl) ?_
    refine ai (r_iload_n (pc := 16) (k := 2) (by decide +kernel : decode k_R_nearest.2.1 16 = .ok (.iload_n 2, 1)) rfl rfl) ?_
    refine ai (r_iload (pc := 17) (k := 4) (by decide +kernel : decode k_R_nearest.2.1 17 = .ok (.iload 4, 2)) rfl) ?_
    obtain ⟨r6, m7, hr6, h⟩ := bn_some h
    have q8 := R_looks_run hL hr6
    have c9 := (RC_0 hL).1
    have hL := q8.2
    refine ai (q_callV (pc := 19) (As := [.int x1, .int x2, .int x4]) (st := []) (st2 := []) (b := 0) rfl rfl (by decide +kernel : decode k_R_nearest.2.1 19 = .ok (.invokevirtual 601, 3)) lc_12_601 mo_R_looks ⟨Nat.le_of_ble_eq_true rfl, Nat.le_of_ble_eq_true rfl⟩ (Nat.le_of_ble_eq_true rfl) (Nat.le_of_ble_eq_true rfl) c9 q8.1) ?_
    refine ai (p_aload_n (pc := 22) (k := 0) (by decide +kernel : decode k_R_nearest.2.1 22 = .ok (.aload_n 0, 1)) rfl rfl) ?_
    refine ai (p_getr (pc := 23) (RR_1632_0 hL) (by decide +kernel : decode k_R_nearest.2.1 23 = .ok (.getfield 212, 3)) lg_12_212 (RC_0 hL).1) ?_
    refine ai (r_iload_n (pc := 26) (k := 3) (by decide +kernel : decode k_R_nearest.2.1 26 = .ok (.iload_n 3, 1)) rfl rfl) ?_
    obtain ⟨g10, h⟩ := gd_some h
    refine ai (p_iald (pc := 27) (by decide +kernel : decode k_R_nearest.2.1 27 = .ok (.iaload, 1)) (RC_62 hL).1 (RC_62 hL).2 g10) ?_
    obtain ⟨v11, hv11, h⟩ := vb_some h
    refine ai (e_istore (pc := 28) hv11 (by decide +kernel : decode k_R_nearest.2.1 28 = .ok (.istore 5, 2)) (by decide) rfl) ?_
    refine ai (r_iload (pc := 30) (k := 0) (by decide +kernel : decode k_R_nearest.2.1 30 = .ok (.iload 5, 2)) rfl) ?_
    rcases ite_some h with ⟨c12, h⟩ | ⟨c12, h⟩
    · refine ai (r_if_lt_t (pc := 32) (tgt := 45) (by decide +kernel : decode k_R_nearest.2.1 32 = .ok (.ifCond .lt (13), 3)) (by decide) c12) ?_
      refine ai (r_iconst (pc := 45) (by decide +kernel : decode k_R_nearest.2.1 45 = .ok (.iconst (-1), 1)) ic_m1) ?_
      cases h
      exact ⟨r_iret rfl (by decide +kernel : decode k_R_nearest.2.1 46 = .ok (.ireturn, 1)), hL⟩
    · refine ai (r_if_lt_f (pc := 32) 45 (by decide +kernel : decode k_R_nearest.2.1 32 = .ok (.ifCond .lt (13), 3)) (by decide) c12) ?_
      refine ai (p_aload_n (pc := 35) (k := 1) (by decide +kernel : decode k_R_nearest.2.1 35 = .ok (.aload_n 0, 1)) rfl rfl) ?_
      refine ai (p_getr (pc := 36) (RR_1633_0 hL) (by decide +kernel : decode k_R_nearest.2.1 36 = .ok (.getfield 215, 3)) lg_12_215 (RC_0 hL).1) ?_
      refine ai (r_iload_n (pc := 39) (k := 4) (by decide +kernel : decode k_R_nearest.2.1 39 = .ok (.iload_n 3, 1)) rfl rfl) ?_
      obtain ⟨g13, h⟩ := gd_some h
      refine ai (p_iald (pc := 40) (by decide +kernel : decode k_R_nearest.2.1 40 = .ok (.iaload, 1)) (RC_63 hL).1 (RC_63 hL).2 g13) ?_
      refine ai (r_iconst (pc := 41) (by decide +kernel : decode k_R_nearest.2.1 41 = .ok (.iconst (-1), 1)) ic_m1) ?_
      rcases ite_some h with ⟨c14, h⟩ | ⟨c14, h⟩
      · refine ai (r_icmp_eq_t (pc := 42) (tgt := 47) (by decide +kernel : decode k_R_nearest.2.1 42 = .ok (.if_icmp .eq (5), 3)) (by decide) c14) ?_
        refine ai (r_iconst (pc := 47) (by decide +kernel : decode k_R_nearest.2.1 47 = .ok (.iconst (-1), 1)) ic_m1) ?_
        refine ai (e_istore (pc := 48) rfl (by decide +kernel : decode k_R_nearest.2.1 48 = .ok (.istore 6, 2)) (by decide) rfl) ?_
        refine ai (r_iconst (pc := 50) (by decide +kernel : decode k_R_nearest.2.1 50 = .ok (.iconst 0, 1)) ic_0) ?_
        refine ai (e_istore (pc := 51) rfl (by decide +kernel : decode k_R_nearest.2.1 51 = .ok (.istore 7, 2)) (by decide) rfl) ?_
        refine ai (r_bipush (pc := 53) (by decide +kernel : decode k_R_nearest.2.1 53 = .ok (.bipush (64), 2)) (by decide : _ = (64 : Int32))) ?_
        refine ai (r_iload (pc := 55) (k := 2) (by decide +kernel : decode k_R_nearest.2.1 55 = .ok (.iload 5, 2)) rfl) ?_
        refine ai (r_imul (pc := 57) (by decide +kernel : decode k_R_nearest.2.1 57 = .ok (.imul, 1))) ?_
        obtain ⟨v15, hv15, h⟩ := vb_some h
        refine ai (e_istore (pc := 58) hv15 (by decide +kernel : decode k_R_nearest.2.1 58 = .ok (.istore 8, 2)) (by decide) rfl) ?_
        exact (ai (r_sub [4, 7, 3, 2, 1, 0] rfl) (R_nearest_60_run hL h))
      · refine ai (r_icmp_eq_f (pc := 42) 47 (by decide +kernel : decode k_R_nearest.2.1 42 = .ok (.if_icmp .eq (5), 3)) (by decide) c14) ?_
        refine ai (r_iconst (pc := 45) (by decide +kernel : decode k_R_nearest.2.1 45 = .ok (.iconst (-1), 1)) ic_m1) ?_
        cases h
        exact ⟨r_iret rfl (by decide +kernel : decode k_R_nearest.2.1 46 = .ok (.ireturn, 1)), hL⟩
set_option maxRecDepth 100000 in
set_option maxHeartbeats 4000000 in
theorem R_payerOf_29_run {x1 : Int32} {m m' : Mem} {r : Int32} (hL : RL m) (h : R_payerOf_29 x1 m = some (r, m')) : Run k_R_payerOf 29 [(0, .ref 0), (1, .int x1)] [] m (some (.int r)) m' ∧ RL m' := by
  unfold R_payerOf_29 at h
  refine ai (p_aload_n (pc := 29) (k := 0) (by decide +kernel : decode k_R_payerOf.2.1 29 = .ok (.aload_n 0, 1)) rfl rfl) ?_
  refine ai (p_getr (pc := 30) (RR_1637_0 hL) (by decide +kernel : decode k_R_payerOf.2.1 30 = .ok (.getfield 227, 3)) lg_12_227 (RC_0 hL).1) ?_
  refine ai (r_iload_n (pc := 33) (k := 1) (by decide +kernel : decode k_R_payerOf.2.1 33 = .ok (.iload_n 1, 1)) rfl rfl) ?_
  obtain ⟨g1, h⟩ := gd_some h
  refine ai (p_iald (pc := 34) (by decide +kernel : decode k_R_payerOf.2.1 34 = .ok (.iaload, 1)) (RC_67 hL).1 (RC_67 hL).2 g1) ?_
  refine ai (p_aload_n (pc := 35) (k := 0) (by decide +kernel : decode k_R_payerOf.2.1 35 = .ok (.aload_n 0, 1)) rfl rfl) ?_
  refine ai (p_getr (pc := 36) (RR_1636_0 hL) (by decide +kernel : decode k_R_payerOf.2.1 36 = .ok (.getfield 224, 3)) lg_12_224 (RC_0 hL).1) ?_
  refine ai (r_iload_n (pc := 39) (k := 1) (by decide +kernel : decode k_R_payerOf.2.1 39 = .ok (.iload_n 1, 1)) rfl rfl) ?_
  obtain ⟨g2, h⟩ := gd_some h
  refine ai (p_iald (pc := 40) (by decide +kernel : decode k_R_payerOf.2.1 40 = .ok (.iaload, 1)) (RC_66 hL).1 (RC_66 hL).2 g2) ?_
  rcases ite_some h with ⟨c3, h⟩ | ⟨c3, h⟩
  · refine ai (r_icmp_le_t (pc := 41) (tgt := 53) (by decide +kernel : decode k_R_payerOf.2.1 41 = .ok (.if_icmp .le (12), 3)) (by decide) c3) ?_
    refine ai (p_aload_n (pc := 53) (k := 0) (by decide +kernel : decode k_R_payerOf.2.1 53 = .ok (.aload_n 0, 1)) rfl rfl) ?_
    refine ai (p_getr (pc := 54) (RR_1632_0 hL) (by decide +kernel : decode k_R_payerOf.2.1 54 = .ok (.getfield 212, 3)) lg_12_212 (RC_0 hL).1) ?_
    refine ai (r_iload_n (pc := 57) (k := 1) (by decide +kernel : decode k_R_payerOf.2.1 57 = .ok (.iload_n 1, 1)) rfl rfl) ?_
    obtain ⟨g4, h⟩ := gd_some h
    refine ai (p_iald (pc := 58) (by decide +kernel : decode k_R_payerOf.2.1 58 = .ok (.iaload, 1)) (RC_62 hL).1 (RC_62 hL).2 g4) ?_
    cases h
    exact ⟨r_iret rfl (by decide +kernel : decode k_R_payerOf.2.1 59 = .ok (.ireturn, 1)), hL⟩
  · refine ai (r_icmp_le_f (pc := 41) 53 (by decide +kernel : decode k_R_payerOf.2.1 41 = .ok (.if_icmp .le (12), 3)) (by decide) c3) ?_
    refine ai (p_aload_n (pc := 44) (k := 0) (by decide +kernel : decode k_R_payerOf.2.1 44 = .ok (.aload_n 0, 1)) rfl rfl) ?_
    refine ai (p_getr (pc := 45) (RR_1634_0 hL) (by decide +kernel : decode k_R_payerOf.2.1 45 = .ok (.getfield 218, 3)) lg_12_218 (RC_0 hL).1) ?_
    refine ai (r_iload_n (pc := 48) (k := 1) (by decide +kernel : decode k_R_payerOf.2.1 48 = .ok (.iload_n 1, 1)) rfl rfl) ?_
    obtain ⟨g5, h⟩ := gd_some h
    refine ai (p_iald (pc := 49) (by decide +kernel : decode k_R_payerOf.2.1 49 = .ok (.iaload, 1)) (RC_64 hL).1 (RC_64 hL).2 g5) ?_
    refine ai (r_goto (pc := 50) (tgt := 59) (by decide +kernel : decode k_R_payerOf.2.1 50 = .ok (.goto (9), 3)) (by decide)) ?_
    cases h
    exact ⟨r_iret rfl (by decide +kernel : decode k_R_payerOf.2.1 59 = .ok (.ireturn, 1)), hL⟩
set_option maxRecDepth 100000 in
set_option maxHeartbeats 4000000 in
theorem R_payerOf_run {x1 : Int32} {m m' : Mem} {r : Int32} (hL : RL m) (h : R_payerOf x1 m = some (r, m')) : Run k_R_payerOf 0 [(0, .ref 0), (1, .int x1)] [] m (some (.int r)) m' ∧ RL m' := by
  unfold R_payerOf at h
  refine ai (p_aload_n (pc := 0) (k := 0) (by decide +kernel : decode k_R_payerOf.2.1 0 = .ok (.aload_n 0, 1)) rfl rfl) ?_
  refine ai (p_getr (pc := 1) (RR_1632_0 hL) (by decide +kernel : decode k_R_payerOf.2.1 1 = .ok (.getfield 212, 3)) lg_12_212 (RC_0 hL).1) ?_
  refine ai (r_iload_n (pc := 4) (k := 1) (by decide +kernel : decode k_R_payerOf.2.1 4 = .ok (.iload_n 1, 1)) rfl rfl) ?_
  obtain ⟨g1, h⟩ := gd_some h
  refine ai (p_iald (pc := 5) (by decide +kernel : decode k_R_payerOf.2.1 5 = .ok (.iaload, 1)) (RC_62 hL).1 (RC_62 hL).2 g1) ?_
  rcases ite_some h with ⟨c2, h⟩ | ⟨c2, h⟩
  · refine ai (r_if_lt_t (pc := 6) (tgt := 27) (by decide +kernel : decode k_R_payerOf.2.1 6 = .ok (.ifCond .lt (21), 3)) (by decide) c2) ?_
    refine ai (r_iconst (pc := 27) (by decide +kernel : decode k_R_payerOf.2.1 27 = .ok (.iconst (-1), 1)) ic_m1) ?_
    cases h
    exact ⟨r_iret rfl (by decide +kernel : decode k_R_payerOf.2.1 28 = .ok (.ireturn, 1)), hL⟩
  · refine ai (r_if_lt_f (pc := 6) 27 (by decide +kernel : decode k_R_payerOf.2.1 6 = .ok (.ifCond .lt (21), 3)) (by decide) c2) ?_
    refine ai (p_aload_n (pc := 9) (k := 0) (by decide +kernel : decode k_R_payerOf.2.1 9 = .ok (.aload_n 0, 1)) rfl rfl) ?_
    refine ai (p_getr (pc := 10) (RR_1636_0 hL) (by decide +kernel : decode k_R_payerOf.2.1 10 = .ok (.getfield 224, 3)) lg_12_224 (RC_0 hL).1) ?_
    refine ai (r_iload_n (pc := 13) (k := 1) (by decide +kernel : decode k_R_payerOf.2.1 13 = .ok (.iload_n 1, 1)) rfl rfl) ?_
    obtain ⟨g3, h⟩ := gd_some h
    refine ai (p_iald (pc := 14) (by decide +kernel : decode k_R_payerOf.2.1 14 = .ok (.iaload, 1)) (RC_66 hL).1 (RC_66 hL).2 g3) ?_
    rcases ite_some h with ⟨c4, h⟩ | ⟨c4, h⟩
    · refine ai (r_if_gt_t (pc := 15) (tgt := 29) (by decide +kernel : decode k_R_payerOf.2.1 15 = .ok (.ifCond .gt (14), 3)) (by decide) c4) ?_
      exact (R_payerOf_29_run hL h)
    · refine ai (r_if_gt_f (pc := 15) 29 (by decide +kernel : decode k_R_payerOf.2.1 15 = .ok (.ifCond .gt (14), 3)) (by decide) c4) ?_
      refine ai (p_aload_n (pc := 18) (k := 0) (by decide +kernel : decode k_R_payerOf.2.1 18 = .ok (.aload_n 0, 1)) rfl rfl) ?_
      refine ai (p_getr (pc := 19) (RR_1637_0 hL) (by decide +kernel : decode k_R_payerOf.2.1 19 = .ok (.getfield 227, 3)) lg_12_227 (RC_0 hL).1) ?_
      refine ai (r_iload_n (pc := 22) (k := 1) (by decide +kernel : decode k_R_payerOf.2.1 22 = .ok (.iload_n 1, 1)) rfl rfl) ?_
      obtain ⟨g5, h⟩ := gd_some h
      refine ai (p_iald (pc := 23) (by decide +kernel : decode k_R_payerOf.2.1 23 = .ok (.iaload, 1)) (RC_67 hL).1 (RC_67 hL).2 g5) ?_
      rcases ite_some h with ⟨c6, h⟩ | ⟨c6, h⟩
      · refine ai (r_if_gt_t (pc := 24) (tgt := 29) (by decide +kernel : decode k_R_payerOf.2.1 24 = .ok (.ifCond .gt (5), 3)) (by decide) c6) ?_
        exact (R_payerOf_29_run hL h)
      · refine ai (r_if_gt_f (pc := 24) 29 (by decide +kernel : decode k_R_payerOf.2.1 24 = .ok (.ifCond .gt (5), 3)) (by decide) c6) ?_
        refine ai (r_iconst (pc := 27) (by decide +kernel : decode k_R_payerOf.2.1 27 = .ok (.iconst (-1), 1)) ic_m1) ?_
        cases h
        exact ⟨r_iret rfl (by decide +kernel : decode k_R_payerOf.2.1 28 = .ok (.ireturn, 1)), hL⟩
set_option maxRecDepth 100000 in
set_option maxHeartbeats 4000000 in
theorem R_payer_run {x1 : Int32} {x2 : Int32} {x3 : Int32} {x4 : Int32} {m m' : Mem} {r : Int32} (hL : RL m) (h : R_payer x1 x2 x3 x4 m = some (r, m')) : Run k_R_payer 0 [(0, .ref 0), (1, .int x1), (2, .int x2), (3, .int x3), (4, .int x4)] [] m (some (.int r)) m' ∧ RL m' := by
  unfold R_payer at h
  refine ai (p_aload_n (pc := 0) (k := 0) (by decide +kernel : decode k_R_payer.2.1 0 = .ok (.aload_n 0, 1)) rfl rfl) ?_
  refine ai (r_iload_n (pc := 1) (k := 1) (by decide +kernel : decode k_R_payer.2.1 1 = .ok (.iload_n 1, 1)) rfl rfl) ?_
  refine ai (r_iload_n (pc := 2) (k := 2) (by decide +kernel : decode k_R_payer.2.1 2 = .ok (.iload_n 2, 1)) rfl rfl) ?_
  refine ai (r_iload_n (pc := 3) (k := 3) (by decide +kernel : decode k_R_payer.2.1 3 = .ok (.iload_n 3, 1)) rfl rfl) ?_
  refine ai (r_iload (pc := 4) (k := 4) (by decide +kernel : decode k_R_payer.2.1 4 = .ok (.iload 4, 2)) rfl) ?_
  obtain ⟨r1, m2, hr1, h⟩ := bn_some h
  have q3 := R_isHalf_run hL hr1
  have c4 := (RC_0 hL).1
  have hL := q3.2
  refine ai (q_callV (pc := 6) (As := [.int x1, .int x2, .int x3, .int x4]) (st := []) (st2 := [.int r1]) (b := 0) rfl rfl (by decide +kernel : decode k_R_payer.2.1 6 = .ok (.invokevirtual 598, 3)) lc_12_598 mo_R_isHalf ⟨Nat.le_of_ble_eq_true rfl, Nat.le_of_ble_eq_true rfl⟩ (Nat.le_of_ble_eq_true rfl) (Nat.le_of_ble_eq_true rfl) c4 q3.1) ?_
  rcases ite_some h with ⟨c5, h⟩ | ⟨c5, h⟩
  · refine ai (r_if_ne_f (pc := 9) 14 (by decide +kernel : decode k_R_payer.2.1 9 = .ok (.ifCond .ne (5), 3)) (by decide) c5) ?_
    refine ai (r_iconst (pc := 12) (by decide +kernel : decode k_R_payer.2.1 12 = .ok (.iconst (-1), 1)) ic_m1) ?_
    cases h
    exact ⟨r_iret rfl (by decide +kernel : decode k_R_payer.2.1 13 = .ok (.ireturn, 1)), hL⟩
  · refine ai (r_if_ne_t (pc := 9) (tgt := 14) (by decide +kernel : decode k_R_payer.2.1 9 = .ok (.ifCond .ne (5), 3)) (by decide) c5) ?_
    refine ai (p_aload_n (pc := 14) (k := 0) (by decide +kernel : decode k_R_payer.2.1 14 = .ok (.aload_n 0, 1)) rfl rfl) ?_
    refine ai (r_iload_n (pc := 15) (k := 1) (by decide +kernel : decode k_R_payer.2.1 15 = .ok (.iload_n 1, 1)) rfl rfl) ?_
    refine ai (r_iload_n (pc := 16) (k := 2) (by decide +kernel : decode k_R_payer.2.1 16 = .ok (.iload_n 2, 1)) rfl rfl) ?_
    refine ai (r_iload (pc := 17) (k := 4) (by decide +kernel : decode k_R_payer.2.1 17 = .ok (.iload 4, 2)) rfl) ?_
    obtain ⟨r6, m7, hr6, h⟩ := bn_some h
    have q8 := R_looks_run hL hr6
    have c9 := (RC_0 hL).1
    have hL := q8.2
    refine ai (q_callV (pc := 19) (As := [.int x1, .int x2, .int x4]) (st := []) (st2 := []) (b := 0) rfl rfl (by decide +kernel : decode k_R_payer.2.1 19 = .ok (.invokevirtual 601, 3)) lc_12_601 mo_R_looks ⟨Nat.le_of_ble_eq_true rfl, Nat.le_of_ble_eq_true rfl⟩ (Nat.le_of_ble_eq_true rfl) (Nat.le_of_ble_eq_true rfl) c9 q8.1) ?_
    refine ai (p_aload_n (pc := 22) (k := 0) (by decide +kernel : decode k_R_payer.2.1 22 = .ok (.aload_n 0, 1)) rfl rfl) ?_
    refine ai (r_iload_n (pc := 23) (k := 3) (by decide +kernel : decode k_R_payer.2.1 23 = .ok (.iload_n 3, 1)) rfl rfl) ?_
    obtain ⟨r10, m11, hr10, h⟩ := bn_some h
    have q12 := R_payerOf_run hL hr10
    have c13 := (RC_0 hL).1
    have hL := q12.2
    refine ai (q_callV (pc := 24) (As := [.int x3]) (st := []) (st2 := [.int r10]) (b := 0) rfl rfl (by decide +kernel : decode k_R_payer.2.1 24 = .ok (.invokevirtual 607, 3)) lc_12_607 mo_R_payerOf ⟨Nat.le_of_ble_eq_true rfl, Nat.le_of_ble_eq_true rfl⟩ (Nat.le_of_ble_eq_true rfl) (Nat.le_of_ble_eq_true rfl) c13 q12.1) ?_
    refine ai (e_istore (pc := 27) rfl (by decide +kernel : decode k_R_payer.2.1 27 = .ok (.istore 5, 2)) (by decide) rfl) ?_
    refine ai (r_iload (pc := 29) (k := 0) (by decide +kernel : decode k_R_payer.2.1 29 = .ok (.iload 5, 2)) rfl) ?_
    refine ai (r_iconst (pc := 31) (by decide +kernel : decode k_R_payer.2.1 31 = .ok (.iconst (-1), 1)) ic_m1) ?_
    rcases ite_some h with ⟨c14, h⟩ | ⟨c14, h⟩
    · refine ai (r_icmp_ne_f (pc := 32) 39 (by decide +kernel : decode k_R_payer.2.1 32 = .ok (.if_icmp .ne (7), 3)) (by decide) c14) ?_
      refine ai (r_iconst (pc := 35) (by decide +kernel : decode k_R_payer.2.1 35 = .ok (.iconst (-1), 1)) ic_m1) ?_
      refine ai (r_goto (pc := 36) (tgt := 46) (by decide +kernel : decode k_R_payer.2.1 36 = .ok (.goto (10), 3)) (by decide)) ?_
      cases h
      exact ⟨r_iret rfl (by decide +kernel : decode k_R_payer.2.1 46 = .ok (.ireturn, 1)), hL⟩
    · refine ai (r_icmp_ne_t (pc := 32) (tgt := 39) (by decide +kernel : decode k_R_payer.2.1 32 = .ok (.if_icmp .ne (7), 3)) (by decide) c14) ?_
      refine ai (p_aload_n (pc := 39) (k := 1) (by decide +kernel : decode k_R_payer.2.1 39 = .ok (.aload_n 0, 1)) rfl rfl) ?_
      refine ai (p_getr (pc := 40) (RR_1559_0 hL) (by decide +kernel : decode k_R_payer.2.1 40 = .ok (.getfield 52, 3)) lg_12_52 (RC_0 hL).1) ?_
      refine ai (r_iload (pc := 43) (k := 0) (by decide +kernel : decode k_R_payer.2.1 43 = .ok (.iload 5, 2)) rfl) ?_
      obtain ⟨g15, h⟩ := gd_some h
      refine ai (p_iald (pc := 45) (by decide +kernel : decode k_R_payer.2.1 45 = .ok (.iaload, 1)) (RC_12 hL).1 (RC_12 hL).2 g15) ?_
      cases h
      exact ⟨r_iret rfl (by decide +kernel : decode k_R_payer.2.1 46 = .ok (.ireturn, 1)), hL⟩
