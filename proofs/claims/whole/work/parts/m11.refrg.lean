/-! written by gen/emit.py -/
set_option maxRecDepth 100000 in
set_option maxHeartbeats 4000000 in
theorem R_again_81_run {s0 : Int32} {s1 : Int32} {s2 : Int32} {s3 : Int32} {m m' : Mem} {r : Int32} (hL : RL m) (h : R_again_81 s0 s1 s2 s3 m = some (r, m')) : Run k_R_again 81 [] [.int s0, .int s1, .int s2, .int s3, .ref 0] m (some (.int r)) m' ∧ RL m' := by
  unfold R_again_81 at h
  obtain ⟨r1, m2, hr1, h⟩ := bn_some h
  have q3 := R_worthBy_run hL hr1
  have c4 := (RC_0 hL).1
  have hL := q3.2
  refine ai (q_callV (pc := 81) (As := [.int s3, .int s2, .int s1, .int s0]) (st := []) (st2 := [.int r1]) (b := 0) rfl rfl (by decide +kernel : decode k_R_again.2.1 81 = .ok (.invokevirtual 595, 3)) lc_12_595 mo_R_worthBy ⟨Nat.le_of_ble_eq_true rfl, Nat.le_of_ble_eq_true rfl⟩ (Nat.le_of_ble_eq_true rfl) (Nat.le_of_ble_eq_true rfl) c4 q3.1) ?_
  refine ai (e_istore (pc := 84) rfl (by decide +kernel : decode k_R_again.2.1 84 = .ok (.istore 6, 2)) (by decide) rfl) ?_
  refine ai (r_iload (pc := 86) (k := 0) (by decide +kernel : decode k_R_again.2.1 86 = .ok (.iload 6, 2)) rfl) ?_
  rcases ite_some h with ⟨c5, h⟩ | ⟨c5, h⟩
  · refine ai (r_if_le_t (pc := 88) (tgt := 95) (by decide +kernel : decode k_R_again.2.1 88 = .ok (.ifCond .le (7), 3)) (by decide) c5) ?_
    refine ai (r_iconst (pc := 95) (by decide +kernel : decode k_R_again.2.1 95 = .ok (.iconst 0, 1)) ic_0) ?_
    cases h
    exact ⟨r_zret (by decide) rfl (by decide +kernel : decode k_R_again.2.1 96 = .ok (.ireturn, 1)), hL⟩
  · refine ai (r_if_le_f (pc := 88) 95 (by decide +kernel : decode k_R_again.2.1 88 = .ok (.ifCond .le (7), 3)) (by decide) c5) ?_
    refine ai (r_iconst (pc := 91) (by decide +kernel : decode k_R_again.2.1 91 = .ok (.iconst 1, 1)) ic_1) ?_
    refine ai (r_goto (pc := 92) (tgt := 96) (by decide +kernel : decode k_R_again.2.1 92 = .ok (.goto (4), 3)) (by decide)) ?_
    cases h
    exact ⟨r_zret (by decide) rfl (by decide +kernel : decode k_R_again.2.1 96 = .ok (.ireturn, 1)), hL⟩
set_option maxRecDepth 100000 in
set_option maxHeartbeats 4000000 in
theorem R_again_run {x1 : Int32} {x2 : Int32} {x3 : Int32} {x4 : Int32} {m m' : Mem} {r : Int32} (hL : RL m) (h : R_again x1 x2 x3 x4 m = some (r, m')) : Run k_R_again 0 [(0, .ref 0), (1, .int x1), (2, .int x2), (3, .int x3), (4, .int x4)] [] m (some (.int r)) m' ∧ RL m' := by
  unfold R_again at h
  refine ai (p_aload_n (pc := 0) (k := 0) (by decide +kernel : decode k_R_again.2.1 0 = .ok (.aload_n 0, 1)) rfl rfl) ?_
  refine ai (r_iload_n (pc := 1) (k := 1) (by decide +kernel : decode k_R_again.2.1 1 = .ok (.iload_n 1, 1)) rfl rfl) ?_
  refine ai (r_iload_n (pc := 2) (k := 2) (by decide +kernel : decode k_R_again.2.1 2 = .ok (.iload_n 2, 1)) rfl rfl) ?_
  refine ai (r_iload_n (pc := 3) (k := 3) (by decide +kernel : decode k_R_again.2.1 3 = .ok (.iload_n 3, 1)) rfl rfl) ?_
  refine ai (r_iload (pc := 4) (k := 4) (by decide +kernel : decode k_R_again.2.1 4 = .ok (.iload 4, 2)) rfl) ?_
  obtain ⟨r1, m2, hr1, h⟩ := bn_some h
  have q3 := R_isHalf_run hL hr1
  have c4 := (RC_0 hL).1
  have hL := q3.2
  refine ai (q_callV (pc := 6) (As := [.int x1, .int x2, .int x3, .int x4]) (st := []) (st2 := [.int r1]) (b := 0) rfl rfl (by decide +kernel : decode k_R_again.2.1 6 = .ok (.invokevirtual 598, 3)) lc_12_598 mo_R_isHalf ⟨Nat.le_of_ble_eq_true rfl, Nat.le_of_ble_eq_true rfl⟩ (Nat.le_of_ble_eq_true rfl) (Nat.le_of_ble_eq_true rfl) c4 q3.1) ?_
  rcases ite_some h with ⟨c5, h⟩ | ⟨c5, h⟩
  · refine ai (r_if_ne_f (pc := 9) 14 (by decide +kernel : decode k_R_again.2.1 9 = .ok (.ifCond .ne (5), 3)) (by decide) c5) ?_
    refine ai (r_iconst (pc := 12) (by decide +kernel : decode k_R_again.2.1 12 = .ok (.iconst 0, 1)) ic_0) ?_
    cases h
    exact ⟨r_zret (by decide) rfl (by decide +kernel : decode k_R_again.2.1 13 = .ok (.ireturn, 1)), hL⟩
  · refine ai (r_if_ne_t (pc := 9) (tgt := 14) (by decide +kernel : decode k_R_again.2.1 9 = .ok (.ifCond .ne (5), 3)) (by decide) c5) ?_
    refine ai (p_aload_n (pc := 14) (k := 0) (by decide +kernel : decode k_R_again.2.1 14 = .ok (.aload_n 0, 1)) rfl rfl) ?_
    refine ai (r_iload_n (pc := 15) (k := 1) (by decide +kernel : decode k_R_again.2.1 15 = .ok (.iload_n 1, 1)) rfl rfl) ?_
    refine ai (r_iload_n (pc := 16) (k := 2) (by decide +kernel : decode k_R_again.2.1 16 = .ok (.iload_n 2, 1)) rfl rfl) ?_
    refine ai (r_iload (pc := 17) (k := 4) (by decide +kernel : decode k_R_again.2.1 17 = .ok (.iload 4, 2)) rfl) ?_
    obtain ⟨r6, m7, hr6, h⟩ := bn_some h
    have q8 := R_looks_run hL hr6
    have c9 := (RC_0 hL).1
    have hL := q8.2
    refine ai (q_callV (pc := 19) (As := [.int x1, .int x2, .int x4]) (st := []) (st2 := []) (b := 0) rfl rfl (by decide +kernel : decode k_R_again.2.1 19 = .ok (.invokevirtual 601, 3)) lc_12_601 mo_R_looks ⟨Nat.le_of_ble_eq_true rfl, Nat.le_of_ble_eq_true rfl⟩ (Nat.le_of_ble_eq_true rfl) (Nat.le_of_ble_eq_true rfl) c9 q8.1) ?_
    refine ai (p_aload_n (pc := 22) (k := 0) (by decide +kernel : decode k_R_again.2.1 22 = .ok (.aload_n 0, 1)) rfl rfl) ?_
    refine ai (r_iload_n (pc := 23) (k := 3) (by decide +kernel : decode k_R_again.2.1 23 = .ok (.iload_n 3, 1)) rfl rfl) ?_
    obtain ⟨r10, m11, hr10, h⟩ := bn_some h
    have q12 := R_payerOf_run hL hr10
    have c13 := (RC_0 hL).1
    have hL := q12.2
    refine ai (q_callV (pc := 24) (As := [.int x3]) (st := []) (st2 := [.int r10]) (b := 0) rfl rfl (by decide +kernel : decode k_R_again.2.1 24 = .ok (.invokevirtual 607, 3)) lc_12_607 mo_R_payerOf ⟨Nat.le_of_ble_eq_true rfl, Nat.le_of_ble_eq_true rfl⟩ (Nat.le_of_ble_eq_true rfl) (Nat.le_of_ble_eq_true rfl) c13 q12.1) ?_
    refine ai (e_istore (pc := 27) rfl (by decide +kernel : decode k_R_again.2.1 27 = .ok (.istore 5, 2)) (by decide) rfl) ?_
    refine ai (r_iload (pc := 29) (k := 0) (by decide +kernel : decode k_R_again.2.1 29 = .ok (.iload 5, 2)) rfl) ?_
    refine ai (r_iconst (pc := 31) (by decide +kernel : decode k_R_again.2.1 31 = .ok (.iconst (-1), 1)) ic_m1) ?_
    rcases ite_some h with ⟨c14, h⟩ | ⟨c14, h⟩
    · refine ai (r_icmp_ne_f (pc := 32) 37 (by decide +kernel : decode k_R_again.2.1 32 = .ok (.if_icmp .ne (5), 3)) (by decide) c14) ?_
      refine ai (r_iconst (pc := 35) (by decide +kernel : decode k_R_again.2.1 35 = .ok (.iconst 0, 1)) ic_0) ?_
      cases h
      exact ⟨r_zret (by decide) rfl (by decide +kernel : decode k_R_again.2.1 36 = .ok (.ireturn, 1)), hL⟩
    · refine ai (r_icmp_ne_t (pc := 32) (tgt := 37) (by decide +kernel : decode k_R_again.2.1 32 = .ok (.if_icmp .ne (5), 3)) (by decide) c14) ?_
      refine ai (p_aload_n (pc := 37) (k := 1) (by decide +kernel : decode k_R_again.2.1 37 = .ok (.aload_n 0, 1)) rfl rfl) ?_
      refine ai (r_iload_n (pc := 38) (k := 3) (by decide +kernel : decode k_R_again.2.1 38 = .ok (.iload_n 2, 1)) rfl rfl) ?_
      refine ai (p_aload_n (pc := 39) (k := 1) (by decide +kernel : decode k_R_again.2.1 39 = .ok (.aload_n 0, 1)) rfl rfl) ?_
      refine ai (p_getr (pc := 40) (RR_1596_0 hL) (by decide +kernel : decode k_R_again.2.1 40 = .ok (.getfield 134, 3)) lg_12_134 (RC_0 hL).1) ?_
      refine ai (r_iload_n (pc := 43) (k := 2) (by decide +kernel : decode k_R_again.2.1 43 = .ok (.iload_n 1, 1)) rfl rfl) ?_
      obtain ⟨g15, h⟩ := gd_some h
      refine ai (p_iald (pc := 44) (by decide +kernel : decode k_R_again.2.1 44 = .ok (.iaload, 1)) (RC_39 hL).1 (RC_39 hL).2 g15) ?_
      refine ai (r_iload (pc := 45) (k := 5) (by decide +kernel : decode k_R_again.2.1 45 = .ok (.iload 4, 2)) rfl) ?_
      obtain ⟨r16, m17, hr16, h⟩ := bn_some h
      have q18 := R_builds_run hL hr16
      have c19 := (RC_0 hL).1
      have hL := q18.2
      refine ai (q_callV (pc := 47) (As := [.int x2, .int (aI m11 39 (ix x1)), .int x4]) (st := []) (st2 := []) (b := 0) rfl rfl (by decide +kernel : decode k_R_again.2.1 47 = .ok (.invokevirtual 524, 3)) lc_12_524 mo_R_builds ⟨Nat.le_of_ble_eq_true rfl, Nat.le_of_ble_eq_true rfl⟩ (Nat.le_of_ble_eq_true rfl) (Nat.le_of_ble_eq_true rfl) c19 q18.1) ?_
      refine ai (p_aload_n (pc := 50) (k := 1) (by decide +kernel : decode k_R_again.2.1 50 = .ok (.aload_n 0, 1)) rfl rfl) ?_
      refine ai (r_iload_n (pc := 51) (k := 2) (by decide +kernel : decode k_R_again.2.1 51 = .ok (.iload_n 1, 1)) rfl rfl) ?_
      refine ai (r_iload_n (pc := 52) (k := 4) (by decide +kernel : decode k_R_again.2.1 52 = .ok (.iload_n 3, 1)) rfl rfl) ?_
      refine ai (r_iload (pc := 53) (k := 0) (by decide +kernel : decode k_R_again.2.1 53 = .ok (.iload 5, 2)) rfl) ?_
      refine ai (r_iload (pc := 55) (k := 0) (by decide +kernel : decode k_R_again.2.1 55 = .ok (.iload 5, 2)) rfl) ?_
      refine ai (p_aload_n (pc := 57) (k := 1) (by decide +kernel : decode k_R_again.2.1 57 = .ok (.aload_n 0, 1)) rfl rfl) ?_
      refine ai (p_getr (pc := 58) (RR_1632_0 hL) (by decide +kernel : decode k_R_again.2.1 58 = .ok (.getfield 212, 3)) lg_12_212 (RC_0 hL).1) ?_
      refine ai (r_iload_n (pc := 61) (k := 4) (by decide +kernel : decode k_R_again.2.1 61 = .ok (.iload_n 3, 1)) rfl rfl) ?_
      obtain ⟨g20, h⟩ := gd_some h
      refine ai (p_iald (pc := 62) (by decide +kernel : decode k_R_again.2.1 62 = .ok (.iaload, 1)) (RC_62 hL).1 (RC_62 hL).2 g20) ?_
      rcases ite_some h with ⟨c21, h⟩ | ⟨c21, h⟩
      · refine ai (r_icmp_ne_f (pc := 63) 75 (by decide +kernel : decode k_R_again.2.1 63 = .ok (.if_icmp .ne (12), 3)) (by decide) c21) ?_
        refine ai (p_aload_n (pc := 66) (k := 1) (by decide +kernel : decode k_R_again.2.1 66 = .ok (.aload_n 0, 1)) rfl rfl) ?_
        refine ai (p_getr (pc := 67) (RR_1633_0 hL) (by decide +kernel : decode k_R_again.2.1 67 = .ok (.getfield 215, 3)) lg_12_215 (RC_0 hL).1) ?_
        refine ai (r_iload_n (pc := 70) (k := 4) (by decide +kernel : decode k_R_again.2.1 70 = .ok (.iload_n 3, 1)) rfl rfl) ?_
        obtain ⟨g22, h⟩ := gd_some h
        refine ai (p_iald (pc := 71) (by decide +kernel : decode k_R_again.2.1 71 = .ok (.iaload, 1)) (RC_63 hL).1 (RC_63 hL).2 g22) ?_
        refine ai (r_goto (pc := 72) (tgt := 81) (by decide +kernel : decode k_R_again.2.1 72 = .ok (.goto (9), 3)) (by decide)) ?_
        exact (ai (r_sub [] rfl) (R_again_81_run hL h))
      · refine ai (r_icmp_ne_t (pc := 63) (tgt := 75) (by decide +kernel : decode k_R_again.2.1 63 = .ok (.if_icmp .ne (12), 3)) (by decide) c21) ?_
        refine ai (p_aload_n (pc := 75) (k := 1) (by decide +kernel : decode k_R_again.2.1 75 = .ok (.aload_n 0, 1)) rfl rfl) ?_
        refine ai (p_getr (pc := 76) (RR_1635_0 hL) (by decide +kernel : decode k_R_again.2.1 76 = .ok (.getfield 221, 3)) lg_12_221 (RC_0 hL).1) ?_
        refine ai (r_iload_n (pc := 79) (k := 4) (by decide +kernel : decode k_R_again.2.1 79 = .ok (.iload_n 3, 1)) rfl rfl) ?_
        obtain ⟨g23, h⟩ := gd_some h
        refine ai (p_iald (pc := 80) (by decide +kernel : decode k_R_again.2.1 80 = .ok (.iaload, 1)) (RC_65 hL).1 (RC_65 hL).2 g23) ?_
        exact (ai (r_sub [] rfl) (R_again_81_run hL h))
set_option maxRecDepth 100000 in
set_option maxHeartbeats 4000000 in
theorem R_rate_run {x1 : Int32} {x2 : Int32} {x3 : Int32} {x4 : Int32} {m m' : Mem} {r : Int32} (hL : RL m) (h : R_rate x1 x2 x3 x4 m = some (r, m')) : Run k_R_rate 0 [(0, .ref 0), (1, .int x1), (2, .int x2), (3, .int x3), (4, .int x4)] [] m (some (.int r)) m' ∧ RL m' := by
  unfold R_rate at h
  refine ai (p_aload_n (pc := 0) (k := 0) (by decide +kernel : decode k_R_rate.2.1 0 = .ok (.aload_n 0, 1)) rfl rfl) ?_
  refine ai (r_iload_n (pc := 1) (k := 1) (by decide +kernel : decode k_R_rate.2.1 1 = .ok (.iload_n 1, 1)) rfl rfl) ?_
  refine ai (r_iload_n (pc := 2) (k := 2) (by decide +kernel : decode k_R_rate.2.1 2 = .ok (.iload_n 2, 1)) rfl rfl) ?_
  refine ai (r_iload_n (pc := 3) (k := 3) (by decide +kernel : decode k_R_rate.2.1 3 = .ok (.iload_n 3, 1)) rfl rfl) ?_
  refine ai (r_iload (pc := 4) (k := 4) (by decide +kernel : decode k_R_rate.2.1 4 = .ok (.iload 4, 2)) rfl) ?_
  obtain ⟨r1, m2, hr1, h⟩ := bn_some h
  have q3 := R_again_run hL hr1
  have c4 := (RC_0 hL).1
  have hL := q3.2
  refine ai (q_callV (pc := 6) (As := [.int x1, .int x2, .int x3, .int x4]) (st := []) (st2 := [.int r1]) (b := 0) rfl rfl (by decide +kernel : decode k_R_rate.2.1 6 = .ok (.invokevirtual 610, 3)) lc_12_610 mo_R_again ⟨Nat.le_of_ble_eq_true rfl, Nat.le_of_ble_eq_true rfl⟩ (Nat.le_of_ble_eq_true rfl) (Nat.le_of_ble_eq_true rfl) c4 q3.1) ?_
  rcases ite_some h with ⟨c5, h⟩ | ⟨c5, h⟩
  · refine ai (r_if_eq_t (pc := 9) (tgt := 19) (by decide +kernel : decode k_R_rate.2.1 9 = .ok (.ifCond .eq (10), 3)) (by decide) c5) ?_
    refine ai (r_iconst (pc := 19) (by decide +kernel : decode k_R_rate.2.1 19 = .ok (.iconst (-1), 1)) ic_m1) ?_
    cases h
    exact ⟨r_iret rfl (by decide +kernel : decode k_R_rate.2.1 20 = .ok (.ireturn, 1)), hL⟩
  · refine ai (r_if_eq_f (pc := 9) 19 (by decide +kernel : decode k_R_rate.2.1 9 = .ok (.ifCond .eq (10), 3)) (by decide) c5) ?_
    refine ai (p_aload_n (pc := 12) (k := 0) (by decide +kernel : decode k_R_rate.2.1 12 = .ok (.aload_n 0, 1)) rfl rfl) ?_
    refine ai (r_getI (pc := 13) (by decide +kernel : decode k_R_rate.2.1 13 = .ok (.getfield 561, 3)) lg_12_561 (by decide) (RC_0 hL).1) ?_
    refine ai (r_goto (pc := 16) (tgt := 20) (by decide +kernel : decode k_R_rate.2.1 16 = .ok (.goto (4), 3)) (by decide)) ?_
    cases h
    exact ⟨r_iret rfl (by decide +kernel : decode k_R_rate.2.1 20 = .ok (.ireturn, 1)), hL⟩
set_option maxRecDepth 100000 in
set_option maxHeartbeats 4000000 in
theorem R_counted_run {x1 : Int32} {x2 : Int32} {x3 : Int32} {x4 : Int32} {x5 : Int32} {m m' : Mem} {r : Int32} (hL : RL m) (h : R_counted x1 x2 x3 x4 x5 m = some (r, m')) : Run k_R_counted 0 [(0, .ref 0), (1, .int x1), (2, .int x2), (3, .int x3), (4, .int x4), (5, .int x5)] [] m (some (.int r)) m' ∧ RL m' := by
  unfold R_counted at h
  refine ai (p_aload_n (pc := 0) (k := 0) (by decide +kernel : decode k_R_counted.2.1 0 = .ok (.aload_n 0, 1)) rfl rfl) ?_
  refine ai (r_iload_n (pc := 1) (k := 1) (by decide +kernel : decode k_R_counted.2.1 1 = .ok (.iload_n 1, 1)) rfl rfl) ?_
  refine ai (r_iload_n (pc := 2) (k := 2) (by decide +kernel : decode k_R_counted.2.1 2 = .ok (.iload_n 2, 1)) rfl rfl) ?_
  refine ai (r_iload_n (pc := 3) (k := 3) (by decide +kernel : decode k_R_counted.2.1 3 = .ok (.iload_n 3, 1)) rfl rfl) ?_
  refine ai (r_iload (pc := 4) (k := 5) (by decide +kernel : decode k_R_counted.2.1 4 = .ok (.iload 5, 2)) rfl) ?_
  obtain ⟨r1, m2, hr1, h⟩ := bn_some h
  have q3 := R_again_run hL hr1
  have c4 := (RC_0 hL).1
  have hL := q3.2
  refine ai (q_callV (pc := 6) (As := [.int x1, .int x2, .int x3, .int x5]) (st := []) (st2 := [.int r1]) (b := 0) rfl rfl (by decide +kernel : decode k_R_counted.2.1 6 = .ok (.invokevirtual 610, 3)) lc_12_610 mo_R_again ⟨Nat.le_of_ble_eq_true rfl, Nat.le_of_ble_eq_true rfl⟩ (Nat.le_of_ble_eq_true rfl) (Nat.le_of_ble_eq_true rfl) c4 q3.1) ?_
  rcases ite_some h with ⟨c5, h⟩ | ⟨c5, h⟩
  · refine ai (r_if_eq_t (pc := 9) (tgt := 37) (by decide +kernel : decode k_R_counted.2.1 9 = .ok (.ifCond .eq (28), 3)) (by decide) c5) ?_
    refine ai (r_iconst (pc := 37) (by decide +kernel : decode k_R_counted.2.1 37 = .ok (.iconst (-1), 1)) ic_m1) ?_
    cases h
    exact ⟨r_iret rfl (by decide +kernel : decode k_R_counted.2.1 38 = .ok (.ireturn, 1)), hL⟩
  · refine ai (r_if_eq_f (pc := 9) 37 (by decide +kernel : decode k_R_counted.2.1 9 = .ok (.ifCond .eq (28), 3)) (by decide) c5) ?_
    refine ai (r_iload (pc := 12) (k := 4) (by decide +kernel : decode k_R_counted.2.1 12 = .ok (.iload 4, 2)) rfl) ?_
    refine ai (r_iconst (pc := 14) (by decide +kernel : decode k_R_counted.2.1 14 = .ok (.iconst 0, 1)) ic_0) ?_
    refine ai (p_aload_n (pc := 15) (k := 0) (by decide +kernel : decode k_R_counted.2.1 15 = .ok (.aload_n 0, 1)) rfl rfl) ?_
    refine ai (r_getI (pc := 16) (by decide +kernel : decode k_R_counted.2.1 16 = .ok (.getfield 558, 3)) lg_12_558 (by decide) (RC_0 hL).1) ?_
    refine ai (r_iconst (pc := 19) (by decide +kernel : decode k_R_counted.2.1 19 = .ok (.iconst 1, 1)) ic_1) ?_
    refine ai (r_isub (pc := 20) (by decide +kernel : decode k_R_counted.2.1 20 = .ok (.isub, 1))) ?_
    obtain ⟨r6, hr6, h⟩ := bp_some h
    refine ai (q_callS (pc := 21) (As := [.int x4, .int 0, .int ((mI m2 1643 0) - 1)]) (st := []) (st2 := [.int r6]) rfl rfl (by decide +kernel : decode k_R_counted.2.1 21 = .ok (.invokestatic 433, 3)) lc_12_433 mo_R_in ⟨Nat.le_of_ble_eq_true rfl, Nat.le_of_ble_eq_true rfl⟩ (Nat.le_of_ble_eq_true rfl) (Nat.le_of_ble_eq_true rfl) (R_in_run hr6)) ?_
    rcases ite_some h with ⟨c7, h⟩ | ⟨c7, h⟩
    · refine ai (r_if_eq_t (pc := 24) (tgt := 37) (by decide +kernel : decode k_R_counted.2.1 24 = .ok (.ifCond .eq (13), 3)) (by decide) c7) ?_
      refine ai (r_iconst (pc := 37) (by decide +kernel : decode k_R_counted.2.1 37 = .ok (.iconst (-1), 1)) ic_m1) ?_
      cases h
      exact ⟨r_iret rfl (by decide +kernel : decode k_R_counted.2.1 38 = .ok (.ireturn, 1)), hL⟩
    · refine ai (r_if_eq_f (pc := 24) 37 (by decide +kernel : decode k_R_counted.2.1 24 = .ok (.ifCond .eq (13), 3)) (by decide) c7) ?_
      refine ai (p_aload_n (pc := 27) (k := 0) (by decide +kernel : decode k_R_counted.2.1 27 = .ok (.aload_n 0, 1)) rfl rfl) ?_
      refine ai (p_getr (pc := 28) (RR_1644_0 hL) (by decide +kernel : decode k_R_counted.2.1 28 = .ok (.getfield 236, 3)) lg_12_236 (RC_0 hL).1) ?_
      refine ai (r_iload (pc := 31) (k := 4) (by decide +kernel : decode k_R_counted.2.1 31 = .ok (.iload 4, 2)) rfl) ?_
      obtain ⟨g8, h⟩ := gd_some h
      refine ai (p_iald (pc := 33) (by decide +kernel : decode k_R_counted.2.1 33 = .ok (.iaload, 1)) (RC_70 hL).1 (RC_70 hL).2 g8) ?_
      refine ai (r_goto (pc := 34) (tgt := 38) (by decide +kernel : decode k_R_counted.2.1 34 = .ok (.goto (4), 3)) (by decide)) ?_
      cases h
      exact ⟨r_iret rfl (by decide +kernel : decode k_R_counted.2.1 38 = .ok (.ireturn, 1)), hL⟩
set_option maxRecDepth 100000 in
set_option maxHeartbeats 4000000 in
theorem R_worthOf_run {x1 : Int32} {m m' : Mem} {r : Int32} (hL : RL m) (h : R_worthOf x1 m = some (r, m')) : Run k_R_worthOf 0 [(0, .ref 0), (1, .int x1)] [] m (some (.int r)) m' ∧ RL m' := by
  unfold R_worthOf at h
  refine ai (p_aload_n (pc := 0) (k := 0) (by decide +kernel : decode k_R_worthOf.2.1 0 = .ok (.aload_n 0, 1)) rfl rfl) ?_
  refine ai (p_getr (pc := 1) (RR_1637_0 hL) (by decide +kernel : decode k_R_worthOf.2.1 1 = .ok (.getfield 227, 3)) lg_12_227 (RC_0 hL).1) ?_
  refine ai (r_iload_n (pc := 4) (k := 1) (by decide +kernel : decode k_R_worthOf.2.1 4 = .ok (.iload_n 1, 1)) rfl rfl) ?_
  obtain ⟨g1, h⟩ := gd_some h
  refine ai (p_iald (pc := 5) (by decide +kernel : decode k_R_worthOf.2.1 5 = .ok (.iaload, 1)) (RC_67 hL).1 (RC_67 hL).2 g1) ?_
  refine ai (p_aload_n (pc := 6) (k := 0) (by decide +kernel : decode k_R_worthOf.2.1 6 = .ok (.aload_n 0, 1)) rfl rfl) ?_
  refine ai (p_getr (pc := 7) (RR_1636_0 hL) (by decide +kernel : decode k_R_worthOf.2.1 7 = .ok (.getfield 224, 3)) lg_12_224 (RC_0 hL).1) ?_
  refine ai (r_iload_n (pc := 10) (k := 1) (by decide +kernel : decode k_R_worthOf.2.1 10 = .ok (.iload_n 1, 1)) rfl rfl) ?_
  obtain ⟨g2, h⟩ := gd_some h
  refine ai (p_iald (pc := 11) (by decide +kernel : decode k_R_worthOf.2.1 11 = .ok (.iaload, 1)) (RC_66 hL).1 (RC_66 hL).2 g2) ?_
  rcases ite_some h with ⟨c3, h⟩ | ⟨c3, h⟩
  · refine ai (r_icmp_le_t (pc := 12) (tgt := 24) (by decide +kernel : decode k_R_worthOf.2.1 12 = .ok (.if_icmp .le (12), 3)) (by decide) c3) ?_
    refine ai (p_aload_n (pc := 24) (k := 0) (by decide +kernel : decode k_R_worthOf.2.1 24 = .ok (.aload_n 0, 1)) rfl rfl) ?_
    refine ai (p_getr (pc := 25) (RR_1636_0 hL) (by decide +kernel : decode k_R_worthOf.2.1 25 = .ok (.getfield 224, 3)) lg_12_224 (RC_0 hL).1) ?_
    refine ai (r_iload_n (pc := 28) (k := 1) (by decide +kernel : decode k_R_worthOf.2.1 28 = .ok (.iload_n 1, 1)) rfl rfl) ?_
    obtain ⟨g4, h⟩ := gd_some h
    refine ai (p_iald (pc := 29) (by decide +kernel : decode k_R_worthOf.2.1 29 = .ok (.iaload, 1)) (RC_66 hL).1 (RC_66 hL).2 g4) ?_
    cases h
    exact ⟨r_iret rfl (by decide +kernel : decode k_R_worthOf.2.1 30 = .ok (.ireturn, 1)), hL⟩
  · refine ai (r_icmp_le_f (pc := 12) 24 (by decide +kernel : decode k_R_worthOf.2.1 12 = .ok (.if_icmp .le (12), 3)) (by decide) c3) ?_
    refine ai (p_aload_n (pc := 15) (k := 0) (by decide +kernel : decode k_R_worthOf.2.1 15 = .ok (.aload_n 0, 1)) rfl rfl) ?_
    refine ai (p_getr (pc := 16) (RR_1637_0 hL) (by decide +kernel : decode k_R_worthOf.2.1 16 = .ok (.getfield 227, 3)) lg_12_227 (RC_0 hL).1) ?_
    refine ai (r_iload_n (pc := 19) (k := 1) (by decide +kernel : decode k_R_worthOf.2.1 19 = .ok (.iload_n 1, 1)) rfl rfl) ?_
    obtain ⟨g5, h⟩ := gd_some h
    refine ai (p_iald (pc := 20) (by decide +kernel : decode k_R_worthOf.2.1 20 = .ok (.iaload, 1)) (RC_67 hL).1 (RC_67 hL).2 g5) ?_
    refine ai (r_goto (pc := 21) (tgt := 30) (by decide +kernel : decode k_R_worthOf.2.1 21 = .ok (.goto (9), 3)) (by decide)) ?_
    cases h
    exact ⟨r_iret rfl (by decide +kernel : decode k_R_worthOf.2.1 30 = .ok (.ireturn, 1)), hL⟩
set_option maxRecDepth 100000 in
set_option maxHeartbeats 4000000 in
theorem R_worth_run {x1 : Int32} {x2 : Int32} {x3 : Int32} {x4 : Int32} {m m' : Mem} {r : Int32} (hL : RL m) (h : R_worth x1 x2 x3 x4 m = some (r, m')) : Run k_R_worth 0 [(0, .ref 0), (1, .int x1), (2, .int x2), (3, .int x3), (4, .int x4)] [] m (some (.int r)) m' ∧ RL m' := by
  unfold R_worth at h
  refine ai (p_aload_n (pc := 0) (k := 0) (by decide +kernel : decode k_R_worth.2.1 0 = .ok (.aload_n 0, 1)) rfl rfl) ?_
  refine ai (r_iload_n (pc := 1) (k := 1) (by decide +kernel : decode k_R_worth.2.1 1 = .ok (.iload_n 1, 1)) rfl rfl) ?_
  refine ai (r_iload_n (pc := 2) (k := 2) (by decide +kernel : decode k_R_worth.2.1 2 = .ok (.iload_n 2, 1)) rfl rfl) ?_
  refine ai (r_iload_n (pc := 3) (k := 3) (by decide +kernel : decode k_R_worth.2.1 3 = .ok (.iload_n 3, 1)) rfl rfl) ?_
  refine ai (r_iload (pc := 4) (k := 4) (by decide +kernel : decode k_R_worth.2.1 4 = .ok (.iload 4, 2)) rfl) ?_
  obtain ⟨r1, m2, hr1, h⟩ := bn_some h
  have q3 := R_isHalf_run hL hr1
  have c4 := (RC_0 hL).1
  have hL := q3.2
  refine ai (q_callV (pc := 6) (As := [.int x1, .int x2, .int x3, .int x4]) (st := []) (st2 := [.int r1]) (b := 0) rfl rfl (by decide +kernel : decode k_R_worth.2.1 6 = .ok (.invokevirtual 598, 3)) lc_12_598 mo_R_isHalf ⟨Nat.le_of_ble_eq_true rfl, Nat.le_of_ble_eq_true rfl⟩ (Nat.le_of_ble_eq_true rfl) (Nat.le_of_ble_eq_true rfl) c4 q3.1) ?_
  rcases ite_some h with ⟨c5, h⟩ | ⟨c5, h⟩
  · refine ai (r_if_ne_f (pc := 9) 14 (by decide +kernel : decode k_R_worth.2.1 9 = .ok (.ifCond .ne (5), 3)) (by decide) c5) ?_
    refine ai (r_iconst (pc := 12) (by decide +kernel : decode k_R_worth.2.1 12 = .ok (.iconst 0, 1)) ic_0) ?_
    cases h
    exact ⟨r_iret rfl (by decide +kernel : decode k_R_worth.2.1 13 = .ok (.ireturn, 1)), hL⟩
  · refine ai (r_if_ne_t (pc := 9) (tgt := 14) (by decide +kernel : decode k_R_worth.2.1 9 = .ok (.ifCond .ne (5), 3)) (by decide) c5) ?_
    refine ai (p_aload_n (pc := 14) (k := 0) (by decide +kernel : decode k_R_worth.2.1 14 = .ok (.aload_n 0, 1)) rfl rfl) ?_
    refine ai (r_iload_n (pc := 15) (k := 1) (by decide +kernel : decode k_R_worth.2.1 15 = .ok (.iload_n 1, 1)) rfl rfl) ?_
    refine ai (r_iload_n (pc := 16) (k := 2) (by decide +kernel : decode k_R_worth.2.1 16 = .ok (.iload_n 2, 1)) rfl rfl) ?_
    refine ai (r_iload (pc := 17) (k := 4) (by decide +kernel : decode k_R_worth.2.1 17 = .ok (.iload 4, 2)) rfl) ?_
    obtain ⟨r6, m7, hr6, h⟩ := bn_some h
    have q8 := R_looks_run hL hr6
    have c9 := (RC_0 hL).1
    have hL := q8.2
    refine ai (q_callV (pc := 19) (As := [.int x1, .int x2, .int x4]) (st := []) (st2 := []) (b := 0) rfl rfl (by decide +kernel : decode k_R_worth.2.1 19 = .ok (.invokevirtual 601, 3)) lc_12_601 mo_R_looks ⟨Nat.le_of_ble_eq_true rfl, Nat.le_of_ble_eq_true rfl⟩ (Nat.le_of_ble_eq_true rfl) (Nat.le_of_ble_eq_true rfl) c9 q8.1) ?_
    refine ai (p_aload_n (pc := 22) (k := 0) (by decide +kernel : decode k_R_worth.2.1 22 = .ok (.aload_n 0, 1)) rfl rfl) ?_
    refine ai (r_iload_n (pc := 23) (k := 3) (by decide +kernel : decode k_R_worth.2.1 23 = .ok (.iload_n 3, 1)) rfl rfl) ?_
    obtain ⟨r10, m11, hr10, h⟩ := bn_some h
    have q12 := R_worthOf_run hL hr10
    have c13 := (RC_0 hL).1
    have hL := q12.2
    refine ai (q_callV (pc := 24) (As := [.int x3]) (st := []) (st2 := [.int r10]) (b := 0) rfl rfl (by decide +kernel : decode k_R_worth.2.1 24 = .ok (.invokevirtual 613, 3)) lc_12_613 mo_R_worthOf ⟨Nat.le_of_ble_eq_true rfl, Nat.le_of_ble_eq_true rfl⟩ (Nat.le_of_ble_eq_true rfl) (Nat.le_of_ble_eq_true rfl) c13 q12.1) ?_
    cases h
    exact ⟨r_iret rfl (by decide +kernel : decode k_R_worth.2.1 27 = .ok (.ireturn, 1)), hL⟩
set_option maxRecDepth 100000 in
set_option maxHeartbeats 4000000 in
theorem R_isWeek_run {x1 : Int32} {x2 : Int32} {x3 : Int32} {m m' : Mem} {r : Int32} (hL : RL m) (h : R_isWeek x1 x2 x3 m = some (r, m')) : Run k_R_isWeek 0 [(0, .ref 0), (1, .int x1), (2, .int x2), (3, .int x3)] [] m (some (.int r)) m' ∧ RL m' := by
  unfold R_isWeek at h
  refine ai (p_aload_n (pc := 0) (k := 0) (by decide +kernel : decode k_R_isWeek.2.1 0 = .ok (.aload_n 0, 1)) rfl rfl) ?_
  refine ai (r_iload_n (pc := 1) (k := 1) (by decide +kernel : decode k_R_isWeek.2.1 1 = .ok (.iload_n 1, 1)) rfl rfl) ?_
  obtain ⟨r1, m2, hr1, h⟩ := bn_some h
  have q3 := R_isPerson_run hL hr1
  have c4 := (RC_0 hL).1
  have hL := q3.2
  refine ai (q_callV (pc := 2) (As := [.int x1]) (st := []) (st2 := [.int r1]) (b := 0) rfl rfl (by decide +kernel : decode k_R_isWeek.2.1 2 = .ok (.invokevirtual 443, 3)) lc_12_443 mo_R_isPerson ⟨Nat.le_of_ble_eq_true rfl, Nat.le_of_ble_eq_true rfl⟩ (Nat.le_of_ble_eq_true rfl) (Nat.le_of_ble_eq_true rfl) c4 q3.1) ?_
  rcases ite_some h with ⟨c5, h⟩ | ⟨c5, h⟩
  · refine ai (r_if_eq_t (pc := 5) (tgt := 30) (by decide +kernel : decode k_R_isWeek.2.1 5 = .ok (.ifCond .eq (25), 3)) (by decide) c5) ?_
    refine ai (r_iconst (pc := 30) (by decide +kernel : decode k_R_isWeek.2.1 30 = .ok (.iconst 0, 1)) ic_0) ?_
    cases h
    exact ⟨r_zret (by decide) rfl (by decide +kernel : decode k_R_isWeek.2.1 31 = .ok (.ireturn, 1)), hL⟩
  · refine ai (r_if_eq_f (pc := 5) 30 (by decide +kernel : decode k_R_isWeek.2.1 5 = .ok (.ifCond .eq (25), 3)) (by decide) c5) ?_
    refine ai (r_iload_n (pc := 8) (k := 2) (by decide +kernel : decode k_R_isWeek.2.1 8 = .ok (.iload_n 2, 1)) rfl rfl) ?_
    refine ai (r_iconst (pc := 9) (by decide +kernel : decode k_R_isWeek.2.1 9 = .ok (.iconst 0, 1)) ic_0) ?_
    refine ai (r_bipush (pc := 10) (by decide +kernel : decode k_R_isWeek.2.1 10 = .ok (.bipush (19), 2)) (by decide : _ = (19 : Int32))) ?_
    obtain ⟨r6, hr6, h⟩ := bp_some h
    refine ai (q_callS (pc := 12) (As := [.int x2, .int 0, .int 19]) (st := []) (st2 := [.int r6]) rfl rfl (by decide +kernel : decode k_R_isWeek.2.1 12 = .ok (.invokestatic 433, 3)) lc_12_433 mo_R_in ⟨Nat.le_of_ble_eq_true rfl, Nat.le_of_ble_eq_true rfl⟩ (Nat.le_of_ble_eq_true rfl) (Nat.le_of_ble_eq_true rfl) (R_in_run hr6)) ?_
    rcases ite_some h with ⟨c7, h⟩ | ⟨c7, h⟩
    · refine ai (r_if_eq_t (pc := 15) (tgt := 30) (by decide +kernel : decode k_R_isWeek.2.1 15 = .ok (.ifCond .eq (15), 3)) (by decide) c7) ?_
      refine ai (r_iconst (pc := 30) (by decide +kernel : decode k_R_isWeek.2.1 30 = .ok (.iconst 0, 1)) ic_0) ?_
      cases h
      exact ⟨r_zret (by decide) rfl (by decide +kernel : decode k_R_isWeek.2.1 31 = .ok (.ireturn, 1)), hL⟩
    · refine ai (r_if_eq_f (pc := 15) 30 (by decide +kernel : decode k_R_isWeek.2.1 15 = .ok (.ifCond .eq (15), 3)) (by decide) c7) ?_
      refine ai (p_aload_n (pc := 18) (k := 0) (by decide +kernel : decode k_R_isWeek.2.1 18 = .ok (.aload_n 0, 1)) rfl rfl) ?_
      refine ai (r_iload_n (pc := 19) (k := 3) (by decide +kernel : decode k_R_isWeek.2.1 19 = .ok (.iload_n 3, 1)) rfl rfl) ?_
      obtain ⟨r8, m9, hr8, h⟩ := bn_some h
      have q10 := R_isKnown_run hL hr8
      have c11 := (RC_0 hL).1
      have hL := q10.2
      refine ai (q_callV (pc := 20) (As := [.int x3]) (st := []) (st2 := [.int r8]) (b := 0) rfl rfl (by decide +kernel : decode k_R_isWeek.2.1 20 = .ok (.invokevirtual 455, 3)) lc_12_455 mo_R_isKnown ⟨Nat.le_of_ble_eq_true rfl, Nat.le_of_ble_eq_true rfl⟩ (Nat.le_of_ble_eq_true rfl) (Nat.le_of_ble_eq_true rfl) c11 q10.1) ?_
      rcases ite_some h with ⟨c12, h⟩ | ⟨c12, h⟩
      · refine ai (r_if_eq_t (pc := 23) (tgt := 30) (by decide +kernel : decode k_R_isWeek.2.1 23 = .ok (.ifCond .eq (7), 3)) (by decide) c12) ?_
        refine ai (r_iconst (pc := 30) (by decide +kernel : decode k_R_isWeek.2.1 30 = .ok (.iconst 0, 1)) ic_0) ?_
        cases h
        exact ⟨r_zret (by decide) rfl (by decide +kernel : decode k_R_isWeek.2.1 31 = .ok (.ireturn, 1)), hL⟩
      · refine ai (r_if_eq_f (pc := 23) 30 (by decide +kernel : decode k_R_isWeek.2.1 23 = .ok (.ifCond .eq (7), 3)) (by decide) c12) ?_
        refine ai (r_iconst (pc := 26) (by decide +kernel : decode k_R_isWeek.2.1 26 = .ok (.iconst 1, 1)) ic_1) ?_
        refine ai (r_goto (pc := 27) (tgt := 31) (by decide +kernel : decode k_R_isWeek.2.1 27 = .ok (.goto (4), 3)) (by decide)) ?_
        cases h
        exact ⟨r_zret (by decide) rfl (by decide +kernel : decode k_R_isWeek.2.1 31 = .ok (.ireturn, 1)), hL⟩
set_option maxRecDepth 100000 in
set_option maxHeartbeats 4000000 in
theorem R_payOf_94_run {k32 : Int32 → Int32 → Int32 → Int32 → Mem → Option (Int64 × Mem)} {k55 : Int32 → Int32 → Int32 → Int32 → Int32 → Mem → Option (Int64 × Mem)} {x1 : Int32} {x2 : Int32} {x3 : Int32} {x4 : Int32} {x5 : Int32} {m m' : Mem} {r : Int64} (hk32 : ∀ (x1 : Int32) (x2 : Int32) (x3 : Int32) (x4 : Int32) (m : Mem) (r : Int64) (m' : Mem), RL m → k32 x1 x2 x3 x4 m = some (r, m') → Run k_R_payOf 32 [(0, .ref 0), (1, .int x1), (2, .int x2), (3, .int x3), (4, .int x4)] [] m (some (.long r)) m' ∧ RL m') (hk55 : ∀ (x1 : Int32) (x2 : Int32) (x3 : Int32) (x4 : Int32) (x5 : Int32) (m : Mem) (r : Int64) (m' : Mem), RL m → k55 x1 x2 x3 x4 x5 m = some (r, m') → Run k_R_payOf 55 [(0, .ref 0), (1, .int x1), (2, .int x2), (3, .int x3), (4, .int x4), (5, .int x5)] [] m (some (.long r)) m' ∧ RL m') (hL : RL m) (h : R_payOf_94 k32 k55 x1 x2 x3 x4 x5 m = some (r, m')) : Run k_R_payOf 94 [(0, .ref 0), (1, .int x1), (2, .int x2), (3, .int x3), (4, .int x4), (5, .int x5)] [] m (some (.long r)) m' ∧ RL m' := by
  unfold R_payOf_94 at h
  obtain ⟨v1, hv1, h⟩ := vb_some h
  refine ai (e_iinc (pc := 94) (k := 5) hv1 ic_1 (by decide +kernel : decode k_R_payOf.2.1 94 = .ok (.iinc 5 (1), 3)) rfl (by decide) rfl) ?_
  refine ai (r_goto (pc := 97) (tgt := 55) (by decide +kernel : decode k_R_payOf.2.1 97 = .ok (.goto (-42), 3)) (by decide)) ?_
  exact (ai (r_sub [1, 2, 3, 4, 5, 0] rfl) (hk55 x1 x2 x3 x4 v1 m _ _ hL h))
set_option maxRecDepth 100000 in
set_option maxHeartbeats 4000000 in
theorem R_payOf_100_run {k32 : Int32 → Int32 → Int32 → Int32 → Mem → Option (Int64 × Mem)} {x1 : Int32} {x2 : Int32} {x3 : Int32} {x4 : Int32} {m m' : Mem} {r : Int64} (hk32 : ∀ (x1 : Int32) (x2 : Int32) (x3 : Int32) (x4 : Int32) (m : Mem) (r : Int64) (m' : Mem), RL m → k32 x1 x2 x3 x4 m = some (r, m') → Run k_R_payOf 32 [(0, .ref 0), (1, .int x1), (2, .int x2), (3, .int x3), (4, .int x4)] [] m (some (.long r)) m' ∧ RL m') (hL : RL m) (h : R_payOf_100 k32 x1 x2 x3 x4 m = some (r, m')) : Run k_R_payOf 100 [(0, .ref 0), (1, .int x1), (2, .int x2), (3, .int x3), (4, .int x4)] [] m (some (.long r)) m' ∧ RL m' := by
  unfold R_payOf_100 at h
  obtain ⟨v1, hv1, h⟩ := vb_some h
  refine ai (e_iinc (pc := 100) (k := 4) hv1 ic_1 (by decide +kernel : decode k_R_payOf.2.1 100 = .ok (.iinc 4 (1), 3)) rfl (by decide) rfl) ?_
  refine ai (r_goto (pc := 103) (tgt := 32) (by decide +kernel : decode k_R_payOf.2.1 103 = .ok (.goto (-71), 3)) (by decide)) ?_
  exact (ai (r_sub [1, 2, 3, 4, 0] rfl) (hk32 x1 x2 x3 v1 m _ _ hL h))
set_option maxRecDepth 100000 in
set_option maxHeartbeats 4000000 in
theorem R_payOf_55_run {k32 : Int32 → Int32 → Int32 → Int32 → Mem → Option (Int64 × Mem)} {n : Nat} {x1 : Int32} {x2 : Int32} {x3 : Int32} {x4 : Int32} {x5 : Int32} {m m' : Mem} {r : Int64} (hk32 : ∀ (x1 : Int32) (x2 : Int32) (x3 : Int32) (x4 : Int32) (m : Mem) (r : Int64) (m' : Mem), RL m → k32 x1 x2 x3 x4 m = some (r, m') → Run k_R_payOf 32 [(0, .ref 0), (1, .int x1), (2, .int x2), (3, .int x3), (4, .int x4)] [] m (some (.long r)) m' ∧ RL m') (hL : RL m) (h : R_payOf_55 k32 n x1 x2 x3 x4 x5 m = some (r, m')) : Run k_R_payOf 55 [(0, .ref 0), (1, .int x1), (2, .int x2), (3, .int x3), (4, .int x4), (5, .int x5)] [] m (some (.long r)) m' ∧ RL m' := by
  induction n generalizing x1 x2 x3 x4 x5 m r m' with
  | zero => exact absurd h (by simp [R_payOf_55])
  | succ n ih =>
    rw [R_payOf_55.eq_2] at h
    refine ai (r_iload (pc := 55) (k := 5) (by decide +kernel : decode k_R_payOf.2.1 55 = .ok (.iload 5, 2)) rfl) ?_
    refine ai (r_bipush (pc := 57) (by decide +kernel : decode k_R_payOf.2.1 57 = .ok (.bipush (48), 2)) (by decide : _ = (48 : Int32))) ?_
    rcases ite_some h with ⟨c1, h⟩ | ⟨c1, h⟩
    · refine ai (r_icmp_ge_t (pc := 59) (tgt := 100) (by decide +kernel : decode k_R_payOf.2.1 59 = .ok (.if_icmp .ge (41), 3)) (by decide) c1) ?_
      exact (ai (r_sub [0, 1, 2, 3, 4] rfl) (R_payOf_100_run hk32 hL h))
    · refine ai (r_icmp_ge_f (pc := 59) 100 (by decide +kernel : decode k_R_payOf.2.1 59 = .ok (.if_icmp .ge (41), 3)) (by decide) c1) ?_
      refine ai (p_aload_n (pc := 62) (k := 0) (by decide +kernel : decode k_R_payOf.2.1 62 = .ok (.aload_n 0, 1)) rfl rfl) ?_
      refine ai (p_getr (pc := 63) (RR_1632_0 hL) (by decide +kernel : decode k_R_payOf.2.1 63 = .ok (.getfield 212, 3)) lg_12_212 (RC_0 hL).1) ?_
      refine ai (r_iload (pc := 66) (k := 5) (by decide +kernel : decode k_R_payOf.2.1 66 = .ok (.iload 5, 2)) rfl) ?_
      obtain ⟨g2, h⟩ := gd_some h
      refine ai (p_iald (pc := 68) (by decide +kernel : decode k_R_payOf.2.1 68 = .ok (.iaload, 1)) (RC_62 hL).1 (RC_62 hL).2 g2) ?_
      rcases ite_some h with ⟨c3, h⟩ | ⟨c3, h⟩
      · refine ai (r_if_lt_t (pc := 69) (tgt := 94) (by decide +kernel : decode k_R_payOf.2.1 69 = .ok (.ifCond .lt (25), 3)) (by decide) c3) ?_
        exact (R_payOf_94_run hk32 (fun _ _ _ _ _ _ _ _ q1 q3 => ih q1 q3) hL h)
      · refine ai (r_if_lt_f (pc := 69) 94 (by decide +kernel : decode k_R_payOf.2.1 69 = .ok (.ifCond .lt (25), 3)) (by decide) c3) ?_
        refine ai (p_aload_n (pc := 72) (k := 0) (by decide +kernel : decode k_R_payOf.2.1 72 = .ok (.aload_n 0, 1)) rfl rfl) ?_
        refine ai (p_getr (pc := 73) (RR_1646_0 hL) (by decide +kernel : decode k_R_payOf.2.1 73 = .ok (.getfield 242, 3)) lg_12_242 (RC_0 hL).1) ?_
        refine ai (p_aload_n (pc := 76) (k := 0) (by decide +kernel : decode k_R_payOf.2.1 76 = .ok (.aload_n 0, 1)) rfl rfl) ?_
        refine ai (p_getr (pc := 77) (RR_1632_0 hL) (by decide +kernel : decode k_R_payOf.2.1 77 = .ok (.getfield 212, 3)) lg_12_212 (RC_0 hL).1) ?_
        refine ai (r_iload (pc := 80) (k := 5) (by decide +kernel : decode k_R_payOf.2.1 80 = .ok (.iload 5, 2)) rfl) ?_
        obtain ⟨g4, h⟩ := gd_some h
        refine ai (p_iald (pc := 82) (by decide +kernel : decode k_R_payOf.2.1 82 = .ok (.iaload, 1)) (RC_62 hL).1 (RC_62 hL).2 g4) ?_
        refine ai (r_dup2 (pc := 83) (by decide +kernel : decode k_R_payOf.2.1 83 = .ok (.dup2, 1)) rfl rfl) ?_
        obtain ⟨g5, h⟩ := gd_some h
        refine ai (p_lald (pc := 84) (by decide +kernel : decode k_R_payOf.2.1 84 = .ok (.laload, 1)) (RC_72 hL).1 (RC_72 hL).2 g5) ?_
        refine ai (p_aload_n (pc := 85) (k := 0) (by decide +kernel : decode k_R_payOf.2.1 85 = .ok (.aload_n 0, 1)) rfl rfl) ?_
        refine ai (r_iload (pc := 86) (k := 5) (by decide +kernel : decode k_R_payOf.2.1 86 = .ok (.iload 5, 2)) rfl) ?_
        obtain ⟨r6, m7, hr6, h⟩ := bn_some h
        have q8 := R_worthOf_run hL hr6
        have c9 := (RC_0 hL).1
        have hL := q8.2
        refine ai (q_callV (pc := 88) (As := [.int x5]) (st := [.long (aL m 72 (ix (aI m 62 (ix x5)))), .int (aI m 62 (ix x5)), .ref 72]) (st2 := [.int r6, .long (aL m 72 (ix (aI m 62 (ix x5)))), .int (aI m 62 (ix x5)), .ref 72]) (b := 0) rfl rfl (by decide +kernel : decode k_R_payOf.2.1 88 = .ok (.invokevirtual 613, 3)) lc_12_613 mo_R_worthOf ⟨Nat.le_of_ble_eq_true rfl, Nat.le_of_ble_eq_true rfl⟩ (Nat.le_of_ble_eq_true rfl) (Nat.le_of_ble_eq_true rfl) c9 q8.1) ?_
        refine ai (r_i2l (pc := 91) (by decide +kernel : decode k_R_payOf.2.1 91 = .ok (.i2l, 1))) ?_
        refine ai (r_ladd (pc := 92) (by decide +kernel : decode k_R_payOf.2.1 92 = .ok (.ladd, 1))) ?_
        obtain ⟨g10, h⟩ := gd_some h
        have c11 := (RC_72 hL).1
        have c12 := (RC_72 hL).2
        obtain ⟨m13, hm13, h⟩ := vb_some h
        have hL : RL m13 := by rw [hm13]; exact hL
        refine ai (p_last (pc := 93) hm13 (by decide +kernel : decode k_R_payOf.2.1 93 = .ok (.lastore, 1)) c11 c12 g10) ?_
        exact (R_payOf_94_run hk32 (fun _ _ _ _ _ _ _ _ q1 q3 => ih q1 q3) hL h)
set_option maxRecDepth 100000 in
set_option maxHeartbeats 4000000 in
theorem R_payOf_209_run {k130 : Int64 → Int32 → Mem → Option (Int64 × Mem)} {x4 : Int64} {x6 : Int32} {m m' : Mem} {r : Int64} (hk130 : ∀ (x4 : Int64) (x6 : Int32) (m : Mem) (r : Int64) (m' : Mem), RL m → k130 x4 x6 m = some (r, m') → Run k_R_payOf 130 [(0, .ref 0), (4, .long x4), (6, .int x6)] [] m (some (.long r)) m' ∧ RL m') (hL : RL m) (h : R_payOf_209 k130 x4 x6 m = some (r, m')) : Run k_R_payOf 209 [(0, .ref 0), (4, .long x4), (6, .int x6)] [] m (some (.long r)) m' ∧ RL m' := by
  unfold R_payOf_209 at h
  obtain ⟨v1, hv1, h⟩ := vb_some h
  refine ai (e_iinc (pc := 209) (k := 2) hv1 ic_1 (by decide +kernel : decode k_R_payOf.2.1 209 = .ok (.iinc 6 (1), 3)) rfl (by decide) rfl) ?_
  refine ai (r_goto (pc := 212) (tgt := 130) (by decide +kernel : decode k_R_payOf.2.1 212 = .ok (.goto (-82), 3)) (by decide)) ?_
  exact (ai (r_sub [1, 2, 0] rfl) (hk130 x4 v1 m _ _ hL h))
set_option maxRecDepth 100000 in
set_option maxHeartbeats 4000000 in
theorem R_payOf_174_run {k130 : Int64 → Int32 → Mem → Option (Int64 × Mem)} {x4 : Int64} {x6 : Int32} {s0 : Int64} {m m' : Mem} {r : Int64} (hk130 : ∀ (x4 : Int64) (x6 : Int32) (m : Mem) (r : Int64) (m' : Mem), RL m → k130 x4 x6 m = some (r, m') → Run k_R_payOf 130 [(0, .ref 0), (4, .long x4), (6, .int x6)] [] m (some (.long r)) m' ∧ RL m') (hL : RL m) (h : R_payOf_174 k130 x4 x6 s0 m = some (r, m')) : Run k_R_payOf 174 [(0, .ref 0), (4, .long x4), (6, .int x6)] [.long s0] m (some (.long r)) m' ∧ RL m' := by
  unfold R_payOf_174 at h
  refine ai (e_lstore (pc := 174) rfl (by decide +kernel : decode k_R_payOf.2.1 174 = .ok (.lstore 7, 2)) (by decide) rfl) ?_
  refine ai (r_lload (pc := 176) (k := 2) (by decide +kernel : decode k_R_payOf.2.1 176 = .ok (.lload 4, 2)) rfl) ?_
  refine ai (r_ldc2_w (pc := 178) (by decide +kernel : decode k_R_payOf.2.1 178 = .ok (.ldc2_w 616, 3)) lk_12_616) ?_
  refine ai (p_aload_n (pc := 181) (k := 1) (by decide +kernel : decode k_R_payOf.2.1 181 = .ok (.aload_n 0, 1)) rfl rfl) ?_
  refine ai (p_getr (pc := 182) (RR_1646_0 hL) (by decide +kernel : decode k_R_payOf.2.1 182 = .ok (.getfield 242, 3)) lg_12_242 (RC_0 hL).1) ?_
  refine ai (r_iload (pc := 185) (k := 3) (by decide +kernel : decode k_R_payOf.2.1 185 = .ok (.iload 6, 2)) rfl) ?_
  obtain ⟨g1, h⟩ := gd_some h
  refine ai (p_lald (pc := 187) (by decide +kernel : decode k_R_payOf.2.1 187 = .ok (.laload, 1)) (RC_72 hL).1 (RC_72 hL).2 g1) ?_
  refine ai (r_lmul (pc := 188) (by decide +kernel : decode k_R_payOf.2.1 188 = .ok (.lmul, 1))) ?_
  refine ai (r_ldc2_w (pc := 189) (by decide +kernel : decode k_R_payOf.2.1 189 = .ok (.ldc2_w 618, 3)) lk_12_618) ?_
  refine ai (r_lload (pc := 192) (k := 0) (by decide +kernel : decode k_R_payOf.2.1 192 = .ok (.lload 7, 2)) rfl) ?_
  refine ai (r_lmul (pc := 194) (by decide +kernel : decode k_R_payOf.2.1 194 = .ok (.lmul, 1))) ?_
  refine ai (r_ladd (pc := 195) (by decide +kernel : decode k_R_payOf.2.1 195 = .ok (.ladd, 1))) ?_
  refine ai (r_ldc2_w (pc := 196) (by decide +kernel : decode k_R_payOf.2.1 196 = .ok (.ldc2_w 620, 3)) lk_12_620) ?_
  refine ai (r_lload (pc := 199) (k := 0) (by decide +kernel : decode k_R_payOf.2.1 199 = .ok (.lload 7, 2)) rfl) ?_
  refine ai (r_lmul (pc := 201) (by decide +kernel : decode k_R_payOf.2.1 201 = .ok (.lmul, 1))) ?_
  obtain ⟨g2, h⟩ := gnl_some h
  refine ai (r_ldiv (pc := 202) (by decide +kernel : decode k_R_payOf.2.1 202 = .ok (.ldiv, 1)) g2) ?_
  refine ai (r_lload (pc := 203) (k := 0) (by decide +kernel : decode k_R_payOf.2.1 203 = .ok (.lload 7, 2)) rfl) ?_
  refine ai (r_lmul (pc := 205) (by decide +kernel : decode k_R_payOf.2.1 205 = .ok (.lmul, 1))) ?_
  refine ai (r_ladd (pc := 206) (by decide +kernel : decode k_R_payOf.2.1 206 = .ok (.ladd, 1))) ?_
  obtain ⟨v3, hv3, h⟩ := vb_some h
  refine ai (e_lstore (pc := 207) hv3 (by decide +kernel : decode k_R_payOf.2.1 207 = .ok (.lstore 4, 2)) (by decide) rfl) ?_
  exact (ai (r_sub [2, 0, 3] rfl) (R_payOf_209_run hk130 hL h))
set_option maxRecDepth 100000 in
set_option maxHeartbeats 4000000 in
theorem R_payOf_130_run {n : Nat} {x4 : Int64} {x6 : Int32} {m m' : Mem} {r : Int64} (hL : RL m) (h : R_payOf_130 n x4 x6 m = some (r, m')) : Run k_R_payOf 130 [(0, .ref 0), (4, .long x4), (6, .int x6)] [] m (some (.long r)) m' ∧ RL m' := by
  induction n generalizing x4 x6 m r m' with
  | zero => exact absurd h (by simp [R_payOf_130])
  | succ n ih =>
    rw [R_payOf_130.eq_2] at h
    refine ai (r_iload (pc := 130) (k := 2) (by decide +kernel : decode k_R_payOf.2.1 130 = .ok (.iload 6, 2)) rfl) ?_
    refine ai (p_aload_n (pc := 132) (k := 0) (by decide +kernel : decode k_R_payOf.2.1 132 = .ok (.aload_n 0, 1)) rfl rfl) ?_
    refine ai (r_getI (pc := 133) (by decide +kernel : decode k_R_payOf.2.1 133 = .ok (.getfield 341, 3)) lg_12_341 (by decide) (RC_0 hL).1) ?_
    rcases ite_some h with ⟨c1, h⟩ | ⟨c1, h⟩
    · refine ai (r_icmp_ge_t (pc := 136) (tgt := 215) (by decide +kernel : decode k_R_payOf.2.1 136 = .ok (.if_icmp .ge (79), 3)) (by decide) c1) ?_
      refine ai (r_lload (pc := 215) (k := 1) (by decide +kernel : decode k_R_payOf.2.1 215 = .ok (.lload 4, 2)) rfl) ?_
      cases h
      exact ⟨r_lret rfl (by decide +kernel : decode k_R_payOf.2.1 217 = .ok (.lreturn, 1)), hL⟩
    · refine ai (r_icmp_ge_f (pc := 136) 215 (by decide +kernel : decode k_R_payOf.2.1 136 = .ok (.if_icmp .ge (79), 3)) (by decide) c1) ?_
      refine ai (p_aload_n (pc := 139) (k := 0) (by decide +kernel : decode k_R_payOf.2.1 139 = .ok (.aload_n 0, 1)) rfl rfl) ?_
      refine ai (p_getr (pc := 140) (RR_1555_0 hL) (by decide +kernel : decode k_R_payOf.2.1 140 = .ok (.getfield 40, 3)) lg_12_40 (RC_0 hL).1) ?_
      refine ai (r_iload (pc := 143) (k := 2) (by decide +kernel : decode k_R_payOf.2.1 143 = .ok (.iload 6, 2)) rfl) ?_
      obtain ⟨g2, h⟩ := gd_some h
      refine ai (p_iald (pc := 145) (by decide +kernel : decode k_R_payOf.2.1 145 = .ok (.iaload, 1)) (RC_8 hL).1 (RC_8 hL).2 g2) ?_
      rcases ite_some h with ⟨c3, h⟩ | ⟨c3, h⟩
      · refine ai (r_if_eq_t (pc := 146) (tgt := 152) (by decide +kernel : decode k_R_payOf.2.1 146 = .ok (.ifCond .eq (6), 3)) (by decide) c3) ?_
        refine ai (p_aload_n (pc := 152) (k := 0) (by decide +kernel : decode k_R_payOf.2.1 152 = .ok (.aload_n 0, 1)) rfl rfl) ?_
        refine ai (p_getr (pc := 153) (RR_1615_0 hL) (by decide +kernel : decode k_R_payOf.2.1 153 = .ok (.getfield 176, 3)) lg_12_176 (RC_0 hL).1) ?_
        refine ai (r_iload (pc := 156) (k := 2) (by decide +kernel : decode k_R_payOf.2.1 156 = .ok (.iload 6, 2)) rfl) ?_
        obtain ⟨g4, h⟩ := gd_some h
        refine ai (p_zald (pc := 158) (by decide +kernel : decode k_R_payOf.2.1 158 = .ok (.baload, 1)) (RC_52 hL).1 (RC_52 hL).2 g4) ?_
        rcases ite_some h with ⟨c5, h⟩ | ⟨c5, h⟩
        · refine ai (r_if_eq_t (pc := 159) (tgt := 173) (by decide +kernel : decode k_R_payOf.2.1 159 = .ok (.ifCond .eq (14), 3)) (by decide) c5) ?_
          refine ai (r_lconst (pc := 173) (x := 1) (by decide +kernel : decode k_R_payOf.2.1 173 = .ok (.lconst 1, 1)) (by decide)) ?_
          exact (R_payOf_174_run (fun _ _ _ _ _ q1 q3 => ih q1 q3) hL h)
        · refine ai (r_if_eq_f (pc := 159) 173 (by decide +kernel : decode k_R_payOf.2.1 159 = .ok (.ifCond .eq (14), 3)) (by decide) c5) ?_
          refine ai (p_aload_n (pc := 162) (k := 0) (by decide +kernel : decode k_R_payOf.2.1 162 = .ok (.aload_n 0, 1)) rfl rfl) ?_
          refine ai (p_getr (pc := 163) (RR_1620_0 hL) (by decide +kernel : decode k_R_payOf.2.1 163 = .ok (.getfield 191, 3)) lg_12_191 (RC_0 hL).1) ?_
          refine ai (r_iload (pc := 166) (k := 2) (by decide +kernel : decode k_R_payOf.2.1 166 = .ok (.iload 6, 2)) rfl) ?_
          obtain ⟨g6, h⟩ := gd_some h
          refine ai (p_iald (pc := 168) (by decide +kernel : decode k_R_payOf.2.1 168 = .ok (.iaload, 1)) (RC_57 hL).1 (RC_57 hL).2 g6) ?_
          refine ai (r_i2l (pc := 169) (by decide +kernel : decode k_R_payOf.2.1 169 = .ok (.i2l, 1))) ?_
          refine ai (r_goto (pc := 170) (tgt := 174) (by decide +kernel : decode k_R_payOf.2.1 170 = .ok (.goto (4), 3)) (by decide)) ?_
          exact (R_payOf_174_run (fun _ _ _ _ _ q1 q3 => ih q1 q3) hL h)
      · refine ai (r_if_eq_f (pc := 146) 152 (by decide +kernel : decode k_R_payOf.2.1 146 = .ok (.ifCond .eq (6), 3)) (by decide) c3) ?_
        refine ai (r_goto (pc := 149) (tgt := 209) (by decide +kernel : decode k_R_payOf.2.1 149 = .ok (.goto (60), 3)) (by decide)) ?_
        exact (R_payOf_209_run (fun _ _ _ _ _ q1 q3 => ih q1 q3) hL h)
set_option maxRecDepth 100000 in
set_option maxHeartbeats 4000000 in
theorem R_payOf_106_run {x1 : Int32} {x2 : Int32} {x3 : Int32} {m m' : Mem} {r : Int64} (hL : RL m) (h : R_payOf_106 x1 x2 x3 m = some (r, m')) : Run k_R_payOf 106 [(0, .ref 0), (1, .int x1), (2, .int x2), (3, .int x3)] [] m (some (.long r)) m' ∧ RL m' := by
  unfold R_payOf_106 at h
  refine ai (p_aload_n (pc := 106) (k := 0) (by decide +kernel : decode k_R_payOf.2.1 106 = .ok (.aload_n 0, 1)) rfl rfl) ?_
  refine ai (r_bipush (pc := 107) (by decide +kernel : decode k_R_payOf.2.1 107 = .ok (.bipush (7), 2)) (by decide : _ = (7 : Int32))) ?_
  refine ai (r_iload_n (pc := 109) (k := 2) (by decide +kernel : decode k_R_payOf.2.1 109 = .ok (.iload_n 2, 1)) rfl rfl) ?_
  refine ai (r_imul (pc := 110) (by decide +kernel : decode k_R_payOf.2.1 110 = .ok (.imul, 1))) ?_
  refine ai (r_bipush (pc := 111) (by decide +kernel : decode k_R_payOf.2.1 111 = .ok (.bipush (6), 2)) (by decide : _ = (6 : Int32))) ?_
  refine ai (r_iadd (pc := 113) (by decide +kernel : decode k_R_payOf.2.1 113 = .ok (.iadd, 1))) ?_
  refine ai (p_aload_n (pc := 114) (k := 0) (by decide +kernel : decode k_R_payOf.2.1 114 = .ok (.aload_n 0, 1)) rfl rfl) ?_
  refine ai (p_getr (pc := 115) (RR_1596_0 hL) (by decide +kernel : decode k_R_payOf.2.1 115 = .ok (.getfield 134, 3)) lg_12_134 (RC_0 hL).1) ?_
  refine ai (r_iload_n (pc := 118) (k := 1) (by decide +kernel : decode k_R_payOf.2.1 118 = .ok (.iload_n 1, 1)) rfl rfl) ?_
  obtain ⟨g1, h⟩ := gd_some h
  refine ai (p_iald (pc := 119) (by decide +kernel : decode k_R_payOf.2.1 119 = .ok (.iaload, 1)) (RC_39 hL).1 (RC_39 hL).2 g1) ?_
  refine ai (r_iload_n (pc := 120) (k := 3) (by decide +kernel : decode k_R_payOf.2.1 120 = .ok (.iload_n 3, 1)) rfl rfl) ?_
  obtain ⟨r2, m3, hr2, h⟩ := bn_some h
  have q4 := R_builds_run hL hr2
  have c5 := (RC_0 hL).1
  have hL := q4.2
  refine ai (q_callV (pc := 121) (As := [.int ((7 * x2) + 6), .int (aI m 39 (ix x1)), .int x3]) (st := []) (st2 := []) (b := 0) rfl rfl (by decide +kernel : decode k_R_payOf.2.1 121 = .ok (.invokevirtual 524, 3)) lc_12_524 mo_R_builds ⟨Nat.le_of_ble_eq_true rfl, Nat.le_of_ble_eq_true rfl⟩ (Nat.le_of_ble_eq_true rfl) (Nat.le_of_ble_eq_true rfl) c5 q4.1) ?_
  refine ai (r_lconst (pc := 124) (x := 0) (by decide +kernel : decode k_R_payOf.2.1 124 = .ok (.lconst 0, 1)) (by decide)) ?_
  refine ai (e_lstore (pc := 125) rfl (by decide +kernel : decode k_R_payOf.2.1 125 = .ok (.lstore 4, 2)) (by decide) rfl) ?_
  refine ai (r_iconst (pc := 127) (by decide +kernel : decode k_R_payOf.2.1 127 = .ok (.iconst 0, 1)) ic_0) ?_
  refine ai (e_istore (pc := 128) rfl (by decide +kernel : decode k_R_payOf.2.1 128 = .ok (.istore 6, 2)) (by decide) rfl) ?_
  exact (ai (r_sub [2, 1, 0] rfl) (R_payOf_130_run hL h))
set_option maxRecDepth 100000 in
set_option maxHeartbeats 4000000 in
theorem R_payOf_32_run {n : Nat} {x1 : Int32} {x2 : Int32} {x3 : Int32} {x4 : Int32} {m m' : Mem} {r : Int64} (hL : RL m) (h : R_payOf_32 n x1 x2 x3 x4 m = some (r, m')) : Run k_R_payOf 32 [(0, .ref 0), (1, .int x1), (2, .int x2), (3, .int x3), (4, .int x4)] [] m (some (.long r)) m' ∧ RL m' := by
  induction n generalizing x1 x2 x3 x4 m r m' with
  | zero => exact absurd h (by simp [R_payOf_32])
  | succ n ih =>
    rw [R_payOf_32.eq_2] at h
    refine ai (r_iload (pc := 32) (k := 4) (by decide +kernel : decode k_R_payOf.2.1 32 = .ok (.iload 4, 2)) rfl) ?_
    refine ai (r_bipush (pc := 34) (by decide +kernel : decode k_R_payOf.2.1 34 = .ok (.bipush (7), 2)) (by decide : _ = (7 : Int32))) ?_
    refine ai (r_iload_n (pc := 36) (k := 2) (by decide +kernel : decode k_R_payOf.2.1 36 = .ok (.iload_n 2, 1)) rfl rfl) ?_
    refine ai (r_imul (pc := 37) (by decide +kernel : decode k_R_payOf.2.1 37 = .ok (.imul, 1))) ?_
    refine ai (r_bipush (pc := 38) (by decide +kernel : decode k_R_payOf.2.1 38 = .ok (.bipush (7), 2)) (by decide : _ = (7 : Int32))) ?_
    refine ai (r_iadd (pc := 40) (by decide +kernel : decode k_R_payOf.2.1 40 = .ok (.iadd, 1))) ?_
    rcases ite_some h with ⟨c1, h⟩ | ⟨c1, h⟩
    · refine ai (r_icmp_ge_t (pc := 41) (tgt := 106) (by decide +kernel : decode k_R_payOf.2.1 41 = .ok (.if_icmp .ge (65), 3)) (by decide) c1) ?_
      exact (ai (r_sub [0, 1, 2, 3] rfl) (R_payOf_106_run hL h))
    · refine ai (r_icmp_ge_f (pc := 41) 106 (by decide +kernel : decode k_R_payOf.2.1 41 = .ok (.if_icmp .ge (65), 3)) (by decide) c1) ?_
      refine ai (p_aload_n (pc := 44) (k := 0) (by decide +kernel : decode k_R_payOf.2.1 44 = .ok (.aload_n 0, 1)) rfl rfl) ?_
      refine ai (r_iload_n (pc := 45) (k := 1) (by decide +kernel : decode k_R_payOf.2.1 45 = .ok (.iload_n 1, 1)) rfl rfl) ?_
      refine ai (r_iload (pc := 46) (k := 4) (by decide +kernel : decode k_R_payOf.2.1 46 = .ok (.iload 4, 2)) rfl) ?_
      refine ai (r_iload_n (pc := 48) (k := 3) (by decide +kernel : decode k_R_payOf.2.1 48 = .ok (.iload_n 3, 1)) rfl rfl) ?_
      obtain ⟨r2, m3, hr2, h⟩ := bn_some h
      have q4 := R_looks_run hL hr2
      have c5 := (RC_0 hL).1
      have hL := q4.2
      refine ai (q_callV (pc := 49) (As := [.int x1, .int x4, .int x3]) (st := []) (st2 := []) (b := 0) rfl rfl (by decide +kernel : decode k_R_payOf.2.1 49 = .ok (.invokevirtual 601, 3)) lc_12_601 mo_R_looks ⟨Nat.le_of_ble_eq_true rfl, Nat.le_of_ble_eq_true rfl⟩ (Nat.le_of_ble_eq_true rfl) (Nat.le_of_ble_eq_true rfl) c5 q4.1) ?_
      refine ai (r_iconst (pc := 52) (by decide +kernel : decode k_R_payOf.2.1 52 = .ok (.iconst 0, 1)) ic_0) ?_
      refine ai (e_istore (pc := 53) rfl (by decide +kernel : decode k_R_payOf.2.1 53 = .ok (.istore 5, 2)) (by decide) rfl) ?_
      exact (ai (r_sub [1, 2, 3, 4, 5, 0] rfl) (R_payOf_55_run (fun _ _ _ _ _ _ _ q1 q3 => ih q1 q3) hL h))
set_option maxRecDepth 100000 in
set_option maxHeartbeats 4000000 in
theorem R_payOf_26_run {x1 : Int32} {x2 : Int32} {x3 : Int32} {m m' : Mem} {r : Int64} (hL : RL m) (h : R_payOf_26 x1 x2 x3 m = some (r, m')) : Run k_R_payOf 26 [(0, .ref 0), (1, .int x1), (2, .int x2), (3, .int x3)] [] m (some (.long r)) m' ∧ RL m' := by
  unfold R_payOf_26 at h
  refine ai (r_bipush (pc := 26) (by decide +kernel : decode k_R_payOf.2.1 26 = .ok (.bipush (7), 2)) (by decide : _ = (7 : Int32))) ?_
  refine ai (r_iload_n (pc := 28) (k := 2) (by decide +kernel : decode k_R_payOf.2.1 28 = .ok (.iload_n 2, 1)) rfl rfl) ?_
  refine ai (r_imul (pc := 29) (by decide +kernel : decode k_R_payOf.2.1 29 = .ok (.imul, 1))) ?_
  obtain ⟨v1, hv1, h⟩ := vb_some h
  refine ai (e_istore (pc := 30) hv1 (by decide +kernel : decode k_R_payOf.2.1 30 = .ok (.istore 4, 2)) (by decide) rfl) ?_
  exact (ai (r_sub [1, 2, 3, 4, 0] rfl) (R_payOf_32_run hL h))
set_option maxRecDepth 100000 in
set_option maxHeartbeats 4000000 in
theorem R_payOf_3_run {n : Nat} {x1 : Int32} {x2 : Int32} {x3 : Int32} {x4 : Int32} {m m' : Mem} {r : Int64} (hL : RL m) (h : R_payOf_3 n x1 x2 x3 x4 m = some (r, m')) : Run k_R_payOf 3 [(0, .ref 0), (1, .int x1), (2, .int x2), (3, .int x3), (4, .int x4)] [] m (some (.long r)) m' ∧ RL m' := by
  induction n generalizing x1 x2 x3 x4 m r m' with
  | zero => exact absurd h (by simp [R_payOf_3])
  | succ n ih =>
    rw [R_payOf_3.eq_2] at h
    refine ai (r_iload (pc := 3) (k := 4) (by decide +kernel : decode k_R_payOf.2.1 3 = .ok (.iload 4, 2)) rfl) ?_
    refine ai (p_aload_n (pc := 5) (k := 0) (by decide +kernel : decode k_R_payOf.2.1 5 = .ok (.aload_n 0, 1)) rfl rfl) ?_
    refine ai (r_getI (pc := 6) (by decide +kernel : decode k_R_payOf.2.1 6 = .ok (.getfield 341, 3)) lg_12_341 (by decide) (RC_0 hL).1) ?_
    rcases ite_some h with ⟨c1, h⟩ | ⟨c1, h⟩
    · refine ai (r_icmp_ge_t (pc := 9) (tgt := 26) (by decide +kernel : decode k_R_payOf.2.1 9 = .ok (.if_icmp .ge (17), 3)) (by decide) c1) ?_
      exact (ai (r_sub [0, 1, 2, 3] rfl) (R_payOf_26_run hL h))
    · refine ai (r_icmp_ge_f (pc := 9) 26 (by decide +kernel : decode k_R_payOf.2.1 9 = .ok (.if_icmp .ge (17), 3)) (by decide) c1) ?_
      refine ai (p_aload_n (pc := 12) (k := 0) (by decide +kernel : decode k_R_payOf.2.1 12 = .ok (.aload_n 0, 1)) rfl rfl) ?_
      refine ai (p_getr (pc := 13) (RR_1646_0 hL) (by decide +kernel : decode k_R_payOf.2.1 13 = .ok (.getfield 242, 3)) lg_12_242 (RC_0 hL).1) ?_
      refine ai (r_iload (pc := 16) (k := 4) (by decide +kernel : decode k_R_payOf.2.1 16 = .ok (.iload 4, 2)) rfl) ?_
      refine ai (r_lconst (pc := 18) (x := 0) (by decide +kernel : decode k_R_payOf.2.1 18 = .ok (.lconst 0, 1)) (by decide)) ?_
      obtain ⟨g2, h⟩ := gd_some h
      have c3 := (RC_72 hL).1
      have c4 := (RC_72 hL).2
      obtain ⟨m5, hm5, h⟩ := vb_some h
      have hL : RL m5 := by rw [hm5]; exact hL
      refine ai (p_last (pc := 19) hm5 (by decide +kernel : decode k_R_payOf.2.1 19 = .ok (.lastore, 1)) c3 c4 g2) ?_
      obtain ⟨v6, hv6, h⟩ := vb_some h
      refine ai (e_iinc (pc := 20) (k := 4) hv6 ic_1 (by decide +kernel : decode k_R_payOf.2.1 20 = .ok (.iinc 4 (1), 3)) rfl (by decide) rfl) ?_
      refine ai (r_goto (pc := 23) (tgt := 3) (by decide +kernel : decode k_R_payOf.2.1 23 = .ok (.goto (-20), 3)) (by decide)) ?_
      exact (ai (r_sub [1, 2, 3, 4, 0] rfl) (ih hL h))
set_option maxRecDepth 100000 in
set_option maxHeartbeats 4000000 in
theorem R_payOf_run {x1 : Int32} {x2 : Int32} {x3 : Int32} {m m' : Mem} {r : Int64} (hL : RL m) (h : R_payOf x1 x2 x3 m = some (r, m')) : Run k_R_payOf 0 [(0, .ref 0), (1, .int x1), (2, .int x2), (3, .int x3)] [] m (some (.long r)) m' ∧ RL m' := by
  unfold R_payOf at h
  refine ai (r_iconst (pc := 0) (by decide +kernel : decode k_R_payOf.2.1 0 = .ok (.iconst 0, 1)) ic_0) ?_
  refine ai (e_istore (pc := 1) rfl (by decide +kernel : decode k_R_payOf.2.1 1 = .ok (.istore 4, 2)) (by decide) rfl) ?_
  exact (ai (r_sub [1, 2, 3, 4, 0] rfl) (R_payOf_3_run hL h))
set_option maxRecDepth 100000 in
set_option maxHeartbeats 4000000 in
theorem R_pay_run {x1 : Int32} {x2 : Int32} {x3 : Int32} {m m' : Mem} {r : Int32} (hL : RL m) (h : R_pay x1 x2 x3 m = some (r, m')) : Run k_R_pay 0 [(0, .ref 0), (1, .int x1), (2, .int x2), (3, .int x3)] [] m (some (.int r)) m' ∧ RL m' := by
  unfold R_pay at h
  refine ai (p_aload_n (pc := 0) (k := 0) (by decide +kernel : decode k_R_pay.2.1 0 = .ok (.aload_n 0, 1)) rfl rfl) ?_
  refine ai (r_iload_n (pc := 1) (k := 1) (by decide +kernel : decode k_R_pay.2.1 1 = .ok (.iload_n 1, 1)) rfl rfl) ?_
  refine ai (r_iload_n (pc := 2) (k := 2) (by decide +kernel : decode k_R_pay.2.1 2 = .ok (.iload_n 2, 1)) rfl rfl) ?_
  refine ai (r_iload_n (pc := 3) (k := 3) (by decide +kernel : decode k_R_pay.2.1 3 = .ok (.iload_n 3, 1)) rfl rfl) ?_
  obtain ⟨r1, m2, hr1, h⟩ := bn_some h
  have q3 := R_isWeek_run hL hr1
  have c4 := (RC_0 hL).1
  have hL := q3.2
  refine ai (q_callV (pc := 4) (As := [.int x1, .int x2, .int x3]) (st := []) (st2 := [.int r1]) (b := 0) rfl rfl (by decide +kernel : decode k_R_pay.2.1 4 = .ok (.invokevirtual 622, 3)) lc_12_622 mo_R_isWeek ⟨Nat.le_of_ble_eq_true rfl, Nat.le_of_ble_eq_true rfl⟩ (Nat.le_of_ble_eq_true rfl) (Nat.le_of_ble_eq_true rfl) c4 q3.1) ?_
  rcases ite_some h with ⟨c5, h⟩ | ⟨c5, h⟩
  · refine ai (r_if_eq_t (pc := 7) (tgt := 21) (by decide +kernel : decode k_R_pay.2.1 7 = .ok (.ifCond .eq (14), 3)) (by decide) c5) ?_
    refine ai (r_iconst (pc := 21) (by decide +kernel : decode k_R_pay.2.1 21 = .ok (.iconst (-1), 1)) ic_m1) ?_
    cases h
    exact ⟨r_iret rfl (by decide +kernel : decode k_R_pay.2.1 22 = .ok (.ireturn, 1)), hL⟩
  · refine ai (r_if_eq_f (pc := 7) 21 (by decide +kernel : decode k_R_pay.2.1 7 = .ok (.ifCond .eq (14), 3)) (by decide) c5) ?_
    refine ai (p_aload_n (pc := 10) (k := 0) (by decide +kernel : decode k_R_pay.2.1 10 = .ok (.aload_n 0, 1)) rfl rfl) ?_
    refine ai (r_iload_n (pc := 11) (k := 1) (by decide +kernel : decode k_R_pay.2.1 11 = .ok (.iload_n 1, 1)) rfl rfl) ?_
    refine ai (r_iload_n (pc := 12) (k := 2) (by decide +kernel : decode k_R_pay.2.1 12 = .ok (.iload_n 2, 1)) rfl rfl) ?_
    refine ai (r_iload_n (pc := 13) (k := 3) (by decide +kernel : decode k_R_pay.2.1 13 = .ok (.iload_n 3, 1)) rfl rfl) ?_
    obtain ⟨r6, m7, hr6, h⟩ := bn_some h
    have q8 := R_payOf_run hL hr6
    have c9 := (RC_0 hL).1
    have hL := q8.2
    refine ai (q_callV (pc := 14) (As := [.int x1, .int x2, .int x3]) (st := []) (st2 := [.long r6]) (b := 0) rfl rfl (by decide +kernel : decode k_R_pay.2.1 14 = .ok (.invokevirtual 625, 3)) lc_12_625 mo_R_payOf ⟨Nat.le_of_ble_eq_true rfl, Nat.le_of_ble_eq_true rfl⟩ (Nat.le_of_ble_eq_true rfl) (Nat.le_of_ble_eq_true rfl) c9 q8.1) ?_
    refine ai (r_l2i (pc := 17) (by decide +kernel : decode k_R_pay.2.1 17 = .ok (.l2i, 1))) ?_
    refine ai (r_goto (pc := 18) (tgt := 22) (by decide +kernel : decode k_R_pay.2.1 18 = .ok (.goto (4), 3)) (by decide)) ?_
    cases h
    exact ⟨r_iret rfl (by decide +kernel : decode k_R_pay.2.1 22 = .ok (.ireturn, 1)), hL⟩
set_option maxRecDepth 100000 in
set_option maxHeartbeats 4000000 in
theorem R_halves_211_run {k31 : Int32 → Int32 → Int32 → Int32 → Int32 → Int32 → Mem → Option (Int32 × Mem)} {k54 : Int32 → Int32 → Int32 → Int32 → Int32 → Int32 → Int32 → Mem → Option (Int32 × Mem)} {x1 : Int32} {x2 : Int32} {x3 : Int32} {x4 : Int32} {x5 : Int32} {x6 : Int32} {x7 : Int32} {m m' : Mem} {r : Int32} (hk31 : ∀ (x1 : Int32) (x2 : Int32) (x3 : Int32) (x4 : Int32) (x5 : Int32) (x6 : Int32) (m : Mem) (r : Int32) (m' : Mem), RL m → k31 x1 x2 x3 x4 x5 x6 m = some (r, m') → Run k_R_halves 31 [(0, .ref 0), (1, .int x1), (2, .int x2), (3, .int x3), (4, .int x4), (5, .int x5), (6, .int x6)] [] m (some (.int r)) m' ∧ RL m') (hk54 : ∀ (x1 : Int32) (x2 : Int32) (x3 : Int32) (x4 : Int32) (x5 : Int32) (x6 : Int32) (x7 : Int32) (m : Mem) (r : Int32) (m' : Mem), RL m → k54 x1 x2 x3 x4 x5 x6 x7 m = some (r, m') → Run k_R_halves 54 [(0, .ref 0), (1, .int x1), (2, .int x2), (3, .int x3), (4, .int x4), (5, .int x5), (6, .int x6), (7, .int x7)] [] m (some (.int r)) m' ∧ RL m') (hL : RL m) (h : R_halves_211 k31 k54 x1 x2 x3 x4 x5 x6 x7 m = some (r, m')) : Run k_R_halves 211 [(0, .ref 0), (1, .int x1), (2, .int x2), (3, .int x3), (4, .int x4), (5, .int x5), (6, .int x6), (7, .int x7)] [] m (some (.int r)) m' ∧ RL m' := by
  unfold R_halves_211 at h
  obtain ⟨v1, hv1, h⟩ := vb_some h
  refine ai (e_iinc (pc := 211) (k := 7) hv1 ic_1 (by decide +kernel : decode k_R_halves.2.1 211 = .ok (.iinc 7 (1), 3)) rfl (by decide) rfl) ?_
  refine ai (r_goto (pc := 214) (tgt := 54) (by decide +kernel : decode k_R_halves.2.1 214 = .ok (.goto (-160), 3)) (by decide)) ?_
  exact (ai (r_sub [1, 2, 3, 4, 5, 6, 7, 0] rfl) (hk54 x1 x2 x3 x4 x5 x6 v1 m _ _ hL h))
set_option maxRecDepth 100000 in
set_option maxHeartbeats 4000000 in
theorem R_halves_201_run {k31 : Int32 → Int32 → Int32 → Int32 → Int32 → Int32 → Mem → Option (Int32 × Mem)} {k54 : Int32 → Int32 → Int32 → Int32 → Int32 → Int32 → Int32 → Mem → Option (Int32 × Mem)} {x1 : Int32} {x2 : Int32} {x3 : Int32} {x4 : Int32} {x5 : Int32} {x6 : Int32} {x7 : Int32} {s0 : Int32} {m m' : Mem} {r : Int32} (hk31 : ∀ (x1 : Int32) (x2 : Int32) (x3 : Int32) (x4 : Int32) (x5 : Int32) (x6 : Int32) (m : Mem) (r : Int32) (m' : Mem), RL m → k31 x1 x2 x3 x4 x5 x6 m = some (r, m') → Run k_R_halves 31 [(0, .ref 0), (1, .int x1), (2, .int x2), (3, .int x3), (4, .int x4), (5, .int x5), (6, .int x6)] [] m (some (.int r)) m' ∧ RL m') (hk54 : ∀ (x1 : Int32) (x2 : Int32) (x3 : Int32) (x4 : Int32) (x5 : Int32) (x6 : Int32) (x7 : Int32) (m : Mem) (r : Int32) (m' : Mem), RL m → k54 x1 x2 x3 x4 x5 x6 x7 m = some (r, m') → Run k_R_halves 54 [(0, .ref 0), (1, .int x1), (2, .int x2), (3, .int x3), (4, .int x4), (5, .int x5), (6, .int x6), (7, .int x7)] [] m (some (.int r)) m' ∧ RL m') (hL : RL m) (h : R_halves_201 k31 k54 x1 x2 x3 x4 x5 x6 x7 s0 m = some (r, m')) : Run k_R_halves 201 [(0, .ref 0), (1, .int x1), (2, .int x2), (3, .int x3), (4, .int x4), (5, .int x5), (6, .int x6), (7, .int x7)] [.int s0] m (some (.int r)) m' ∧ RL m' := by
  unfold R_halves_201 at h
  refine ai (e_istore (pc := 201) rfl (by decide +kernel : decode k_R_halves.2.1 201 = .ok (.istore 9, 2)) (by decide) rfl) ?_
  refine ai (r_iload (pc := 203) (k := 0) (by decide +kernel : decode k_R_halves.2.1 203 = .ok (.iload 9, 2)) rfl) ?_
  rcases ite_some h with ⟨c1, h⟩ | ⟨c1, h⟩
  · refine ai (r_if_eq_t (pc := 205) (tgt := 211) (by decide +kernel : decode k_R_halves.2.1 205 = .ok (.ifCond .eq (6), 3)) (by decide) c1) ?_
    exact (ai (r_sub [1, 2, 3, 4, 5, 6, 7, 8] rfl) (R_halves_211_run hk31 hk54 hL h))
  · refine ai (r_if_eq_f (pc := 205) 211 (by decide +kernel : decode k_R_halves.2.1 205 = .ok (.ifCond .eq (6), 3)) (by decide) c1) ?_
    obtain ⟨v2, hv2, h⟩ := vb_some h
    refine ai (e_iinc (pc := 208) (k := 6) hv2 ic_1 (by decide +kernel : decode k_R_halves.2.1 208 = .ok (.iinc 5 (1), 3)) rfl (by decide) rfl) ?_
    exact (ai (r_sub [2, 3, 4, 5, 6, 0, 7, 8] rfl) (R_halves_211_run hk31 hk54 hL h))
set_option maxRecDepth 100000 in
set_option maxHeartbeats 4000000 in
theorem R_halves_135_run {k31 : Int32 → Int32 → Int32 → Int32 → Int32 → Int32 → Mem → Option (Int32 × Mem)} {k54 : Int32 → Int32 → Int32 → Int32 → Int32 → Int32 → Int32 → Mem → Option (Int32 × Mem)} {x1 : Int32} {x2 : Int32} {x3 : Int32} {x4 : Int32} {x5 : Int32} {x6 : Int32} {x7 : Int32} {m m' : Mem} {r : Int32} (hk31 : ∀ (x1 : Int32) (x2 : Int32) (x3 : Int32) (x4 : Int32) (x5 : Int32) (x6 : Int32) (m : Mem) (r : Int32) (m' : Mem), RL m → k31 x1 x2 x3 x4 x5 x6 m = some (r, m') → Run k_R_halves 31 [(0, .ref 0), (1, .int x1), (2, .int x2), (3, .int x3), (4, .int x4), (5, .int x5), (6, .int x6)] [] m (some (.int r)) m' ∧ RL m') (hk54 : ∀ (x1 : Int32) (x2 : Int32) (x3 : Int32) (x4 : Int32) (x5 : Int32) (x6 : Int32) (x7 : Int32) (m : Mem) (r : Int32) (m' : Mem), RL m → k54 x1 x2 x3 x4 x5 x6 x7 m = some (r, m') → Run k_R_halves 54 [(0, .ref 0), (1, .int x1), (2, .int x2), (3, .int x3), (4, .int x4), (5, .int x5), (6, .int x6), (7, .int x7)] [] m (some (.int r)) m' ∧ RL m') (hL : RL m) (h : R_halves_135 k31 k54 x1 x2 x3 x4 x5 x6 x7 m = some (r, m')) : Run k_R_halves 135 [(0, .ref 0), (1, .int x1), (2, .int x2), (3, .int x3), (4, .int x4), (5, .int x5), (6, .int x6), (7, .int x7)] [] m (some (.int r)) m' ∧ RL m' := by
  unfold R_halves_135 at h
  refine ai (r_iconst (pc := 135) (by decide +kernel : decode k_R_halves.2.1 135 = .ok (.iconst 0, 1)) ic_0) ?_
  refine ai (r_goto (pc := 136) (tgt := 201) (by decide +kernel : decode k_R_halves.2.1 136 = .ok (.goto (65), 3)) (by decide)) ?_
  exact (R_halves_201_run hk31 hk54 hL h)
set_option maxRecDepth 100000 in
set_option maxHeartbeats 4000000 in
theorem R_halves_200_run {k31 : Int32 → Int32 → Int32 → Int32 → Int32 → Int32 → Mem → Option (Int32 × Mem)} {k54 : Int32 → Int32 → Int32 → Int32 → Int32 → Int32 → Int32 → Mem → Option (Int32 × Mem)} {x1 : Int32} {x2 : Int32} {x3 : Int32} {x4 : Int32} {x5 : Int32} {x6 : Int32} {x7 : Int32} {m m' : Mem} {r : Int32} (hk31 : ∀ (x1 : Int32) (x2 : Int32) (x3 : Int32) (x4 : Int32) (x5 : Int32) (x6 : Int32) (m : Mem) (r : Int32) (m' : Mem), RL m → k31 x1 x2 x3 x4 x5 x6 m = some (r, m') → Run k_R_halves 31 [(0, .ref 0), (1, .int x1), (2, .int x2), (3, .int x3), (4, .int x4), (5, .int x5), (6, .int x6)] [] m (some (.int r)) m' ∧ RL m') (hk54 : ∀ (x1 : Int32) (x2 : Int32) (x3 : Int32) (x4 : Int32) (x5 : Int32) (x6 : Int32) (x7 : Int32) (m : Mem) (r : Int32) (m' : Mem), RL m → k54 x1 x2 x3 x4 x5 x6 x7 m = some (r, m') → Run k_R_halves 54 [(0, .ref 0), (1, .int x1), (2, .int x2), (3, .int x3), (4, .int x4), (5, .int x5), (6, .int x6), (7, .int x7)] [] m (some (.int r)) m' ∧ RL m') (hL : RL m) (h : R_halves_200 k31 k54 x1 x2 x3 x4 x5 x6 x7 m = some (r, m')) : Run k_R_halves 200 [(0, .ref 0), (1, .int x1), (2, .int x2), (3, .int x3), (4, .int x4), (5, .int x5), (6, .int x6), (7, .int x7)] [] m (some (.int r)) m' ∧ RL m' := by
  unfold R_halves_200 at h
  refine ai (r_iconst (pc := 200) (by decide +kernel : decode k_R_halves.2.1 200 = .ok (.iconst 0, 1)) ic_0) ?_
  exact (R_halves_201_run hk31 hk54 hL h)
set_option maxRecDepth 100000 in
set_option maxHeartbeats 4000000 in
theorem R_halves_217_run {k31 : Int32 → Int32 → Int32 → Int32 → Int32 → Int32 → Mem → Option (Int32 × Mem)} {x1 : Int32} {x2 : Int32} {x3 : Int32} {x4 : Int32} {x5 : Int32} {x6 : Int32} {m m' : Mem} {r : Int32} (hk31 : ∀ (x1 : Int32) (x2 : Int32) (x3 : Int32) (x4 : Int32) (x5 : Int32) (x6 : Int32) (m : Mem) (r : Int32) (m' : Mem), RL m → k31 x1 x2 x3 x4 x5 x6 m = some (r, m') → Run k_R_halves 31 [(0, .ref 0), (1, .int x1), (2, .int x2), (3, .int x3), (4, .int x4), (5, .int x5), (6, .int x6)] [] m (some (.int r)) m' ∧ RL m') (hL : RL m) (h : R_halves_217 k31 x1 x2 x3 x4 x5 x6 m = some (r, m')) : Run k_R_halves 217 [(0, .ref 0), (1, .int x1), (2, .int x2), (3, .int x3), (4, .int x4), (5, .int x5), (6, .int x6)] [] m (some (.int r)) m' ∧ RL m' := by
  unfold R_halves_217 at h
  obtain ⟨v1, hv1, h⟩ := vb_some h
  refine ai (e_iinc (pc := 217) (k := 6) hv1 ic_1 (by decide +kernel : decode k_R_halves.2.1 217 = .ok (.iinc 6 (1), 3)) rfl (by decide) rfl) ?_
  refine ai (r_goto (pc := 220) (tgt := 31) (by decide +kernel : decode k_R_halves.2.1 220 = .ok (.goto (-189), 3)) (by decide)) ?_
  exact (ai (r_sub [1, 2, 3, 4, 5, 6, 0] rfl) (hk31 x1 x2 x3 x4 x5 v1 m _ _ hL h))
set_option maxRecDepth 100000 in
set_option maxHeartbeats 4000000 in
theorem R_halves_54_run {k31 : Int32 → Int32 → Int32 → Int32 → Int32 → Int32 → Mem → Option (Int32 × Mem)} {n : Nat} {x1 : Int32} {x2 : Int32} {x3 : Int32} {x4 : Int32} {x5 : Int32} {x6 : Int32} {x7 : Int32} {m m' : Mem} {r : Int32} (hk31 : ∀ (x1 : Int32) (x2 : Int32) (x3 : Int32) (x4 : Int32) (x5 : Int32) (x6 : Int32) (m : Mem) (r : Int32) (m' : Mem), RL m → k31 x1 x2 x3 x4 x5 x6 m = some (r, m') → Run k_R_halves 31 [(0, .ref 0), (1, .int x1), (2, .int x2), (3, .int x3), (4, .int x4), (5, .int x5), (6, .int x6)] [] m (some (.int r)) m' ∧ RL m') (hL : RL m) (h : R_halves_54 k31 n x1 x2 x3 x4 x5 x6 x7 m = some (r, m')) : Run k_R_halves 54 [(0, .ref 0), (1, .int x1), (2, .int x2), (3, .int x3), (4, .int x4), (5, .int x5), (6, .int x6), (7, .int x7)] [] m (some (.int r)) m' ∧ RL m' := by
  induction n generalizing x1 x2 x3 x4 x5 x6 x7 m r m' with
  | zero => exact absurd h (by simp [R_halves_54])
  | succ n ih =>
    rw [R_halves_54.eq_2] at h
    refine ai (r_iload (pc := 54) (k := 7) (by decide +kernel : decode k_R_halves.2.1 54 = .ok (.iload 7, 2)) rfl) ?_
    refine ai (r_bipush (pc := 56) (by decide +kernel : decode k_R_halves.2.1 56 = .ok (.bipush (48), 2)) (by decide : _ = (48 : Int32))) ?_
    rcases ite_some h with ⟨c1, h⟩ | ⟨c1, h⟩
    · refine ai (r_icmp_ge_t (pc := 58) (tgt := 217) (by decide +kernel : decode k_R_halves.2.1 58 = .ok (.if_icmp .ge (159), 3)) (by decide) c1) ?_
      exact (ai (r_sub [0, 1, 2, 3, 4, 5, 6] rfl) (R_halves_217_run hk31 hL h))
    · refine ai (r_icmp_ge_f (pc := 58) 217 (by decide +kernel : decode k_R_halves.2.1 58 = .ok (.if_icmp .ge (159), 3)) (by decide) c1) ?_
      refine ai (p_aload_n (pc := 61) (k := 0) (by decide +kernel : decode k_R_halves.2.1 61 = .ok (.aload_n 0, 1)) rfl rfl) ?_
      refine ai (p_getr (pc := 62) (RR_1630_0 hL) (by decide +kernel : decode k_R_halves.2.1 62 = .ok (.getfield 206, 3)) lg_12_206 (RC_0 hL).1) ?_
      refine ai (r_iload (pc := 65) (k := 7) (by decide +kernel : decode k_R_halves.2.1 65 = .ok (.iload 7, 2)) rfl) ?_
      obtain ⟨g2, h⟩ := gd_some h
      refine ai (p_iald (pc := 67) (by decide +kernel : decode k_R_halves.2.1 67 = .ok (.iaload, 1)) (RC_60 hL).1 (RC_60 hL).2 g2) ?_
      obtain ⟨r3, hr3, h⟩ := bp_some h
      refine ai (q_callS (pc := 68) (As := [.int (aI m 60 (ix x7))]) (st := []) (st2 := [.int r3]) rfl rfl (by decide +kernel : decode k_R_halves.2.1 68 = .ok (.invokestatic 570, 3)) lc_12_570 mo_R_isTask ⟨Nat.le_of_ble_eq_true rfl, Nat.le_of_ble_eq_true rfl⟩ (Nat.le_of_ble_eq_true rfl) (Nat.le_of_ble_eq_true rfl) (R_isTask_run hr3)) ?_
      refine ai (e_istore (pc := 71) rfl (by decide +kernel : decode k_R_halves.2.1 71 = .ok (.istore 8, 2)) (by decide) rfl) ?_
      refine ai (r_iload (pc := 73) (k := 5) (by decide +kernel : decode k_R_halves.2.1 73 = .ok (.iload 4, 2)) rfl) ?_
      rcases ite_some h with ⟨c4, h⟩ | ⟨c4, h⟩
      · refine ai (r_if_ne_f (pc := 75) 83 (by decide +kernel : decode k_R_halves.2.1 75 = .ok (.ifCond .ne (8), 3)) (by decide) c4) ?_
        refine ai (r_iload (pc := 78) (k := 0) (by decide +kernel : decode k_R_halves.2.1 78 = .ok (.iload 8, 2)) rfl) ?_
        refine ai (r_goto (pc := 80) (tgt := 201) (by decide +kernel : decode k_R_halves.2.1 80 = .ok (.goto (121), 3)) (by decide)) ?_
        exact (ai (r_sub [1, 2, 3, 4, 5, 6, 7, 8] rfl) (R_halves_201_run hk31 (fun _ _ _ _ _ _ _ _ _ _ q1 q3 => ih q1 q3) hL h))
      · refine ai (r_if_ne_t (pc := 75) (tgt := 83) (by decide +kernel : decode k_R_halves.2.1 75 = .ok (.ifCond .ne (8), 3)) (by decide) c4) ?_
        refine ai (r_iload (pc := 83) (k := 5) (by decide +kernel : decode k_R_halves.2.1 83 = .ok (.iload 4, 2)) rfl) ?_
        refine ai (r_iconst (pc := 85) (by decide +kernel : decode k_R_halves.2.1 85 = .ok (.iconst 1, 1)) ic_1) ?_
        rcases ite_some h with ⟨c5, h⟩ | ⟨c5, h⟩
        · refine ai (r_icmp_ne_f (pc := 86) 109 (by decide +kernel : decode k_R_halves.2.1 86 = .ok (.if_icmp .ne (23), 3)) (by decide) c5) ?_
          refine ai (p_aload_n (pc := 89) (k := 1) (by decide +kernel : decode k_R_halves.2.1 89 = .ok (.aload_n 0, 1)) rfl rfl) ?_
          refine ai (p_getr (pc := 90) (RR_1630_0 hL) (by decide +kernel : decode k_R_halves.2.1 90 = .ok (.getfield 206, 3)) lg_12_206 (RC_0 hL).1) ?_
          refine ai (r_iload (pc := 93) (k := 8) (by decide +kernel : decode k_R_halves.2.1 93 = .ok (.iload 7, 2)) rfl) ?_
          obtain ⟨g6, h⟩ := gd_some h
          refine ai (p_iald (pc := 95) (by decide +kernel : decode k_R_halves.2.1 95 = .ok (.iaload, 1)) (RC_60 hL).1 (RC_60 hL).2 g6) ?_
          refine ai (r_bipush (pc := 96) (by decide +kernel : decode k_R_halves.2.1 96 = .ok (.bipush (-2), 2)) (by decide : _ = (-2 : Int32))) ?_
          rcases ite_some h with ⟨c7, h⟩ | ⟨c7, h⟩
          · refine ai (r_icmp_ne_f (pc := 98) 105 (by decide +kernel : decode k_R_halves.2.1 98 = .ok (.if_icmp .ne (7), 3)) (by decide) c7) ?_
            refine ai (r_iconst (pc := 101) (by decide +kernel : decode k_R_halves.2.1 101 = .ok (.iconst 1, 1)) ic_1) ?_
            refine ai (r_goto (pc := 102) (tgt := 201) (by decide +kernel : decode k_R_halves.2.1 102 = .ok (.goto (99), 3)) (by decide)) ?_
            exact (ai (r_sub [1, 2, 3, 4, 5, 6, 7, 8] rfl) (R_halves_201_run hk31 (fun _ _ _ _ _ _ _ _ _ _ q1 q3 => ih q1 q3) hL h))
          · refine ai (r_icmp_ne_t (pc := 98) (tgt := 105) (by decide +kernel : decode k_R_halves.2.1 98 = .ok (.if_icmp .ne (7), 3)) (by decide) c7) ?_
            refine ai (r_iconst (pc := 105) (by decide +kernel : decode k_R_halves.2.1 105 = .ok (.iconst 0, 1)) ic_0) ?_
            refine ai (r_goto (pc := 106) (tgt := 201) (by decide +kernel : decode k_R_halves.2.1 106 = .ok (.goto (95), 3)) (by decide)) ?_
            exact (ai (r_sub [1, 2, 3, 4, 5, 6, 7, 8] rfl) (R_halves_201_run hk31 (fun _ _ _ _ _ _ _ _ _ _ q1 q3 => ih q1 q3) hL h))
        · refine ai (r_icmp_ne_t (pc := 86) (tgt := 109) (by decide +kernel : decode k_R_halves.2.1 86 = .ok (.if_icmp .ne (23), 3)) (by decide) c5) ?_
          refine ai (r_iload (pc := 109) (k := 5) (by decide +kernel : decode k_R_halves.2.1 109 = .ok (.iload 4, 2)) rfl) ?_
          refine ai (r_iconst (pc := 111) (by decide +kernel : decode k_R_halves.2.1 111 = .ok (.iconst 2, 1)) ic_2) ?_
          rcases ite_some h with ⟨c8, h⟩ | ⟨c8, h⟩
          · refine ai (r_icmp_ne_f (pc := 112) 139 (by decide +kernel : decode k_R_halves.2.1 112 = .ok (.if_icmp .ne (27), 3)) (by decide) c8) ?_
            refine ai (r_iload (pc := 115) (k := 0) (by decide +kernel : decode k_R_halves.2.1 115 = .ok (.iload 8, 2)) rfl) ?_
            rcases ite_some h with ⟨c9, h⟩ | ⟨c9, h⟩
            · refine ai (r_if_eq_t (pc := 117) (tgt := 135) (by decide +kernel : decode k_R_halves.2.1 117 = .ok (.ifCond .eq (18), 3)) (by decide) c9) ?_
              exact (ai (r_sub [1, 2, 3, 4, 5, 6, 7, 8] rfl) (R_halves_135_run hk31 (fun _ _ _ _ _ _ _ _ _ _ q1 q3 => ih q1 q3) hL h))
            · refine ai (r_if_eq_f (pc := 117) 135 (by decide +kernel : decode k_R_halves.2.1 117 = .ok (.ifCond .eq (18), 3)) (by decide) c9) ?_
              refine ai (p_aload_n (pc := 120) (k := 1) (by decide +kernel : decode k_R_halves.2.1 120 = .ok (.aload_n 0, 1)) rfl rfl) ?_
              refine ai (p_getr (pc := 121) (RR_1632_0 hL) (by decide +kernel : decode k_R_halves.2.1 121 = .ok (.getfield 212, 3)) lg_12_212 (RC_0 hL).1) ?_
              refine ai (r_iload (pc := 124) (k := 8) (by decide +kernel : decode k_R_halves.2.1 124 = .ok (.iload 7, 2)) rfl) ?_
              obtain ⟨g10, h⟩ := gd_some h
              refine ai (p_iald (pc := 126) (by decide +kernel : decode k_R_halves.2.1 126 = .ok (.iaload, 1)) (RC_62 hL).1 (RC_62 hL).2 g10) ?_
              refine ai (r_iconst (pc := 127) (by decide +kernel : decode k_R_halves.2.1 127 = .ok (.iconst (-1), 1)) ic_m1) ?_
              rcases ite_some h with ⟨c11, h⟩ | ⟨c11, h⟩
              · refine ai (r_icmp_ne_f (pc := 128) 135 (by decide +kernel : decode k_R_halves.2.1 128 = .ok (.if_icmp .ne (7), 3)) (by decide) c11) ?_
                refine ai (r_iconst (pc := 131) (by decide +kernel : decode k_R_halves.2.1 131 = .ok (.iconst 1, 1)) ic_1) ?_
                refine ai (r_goto (pc := 132) (tgt := 201) (by decide +kernel : decode k_R_halves.2.1 132 = .ok (.goto (69), 3)) (by decide)) ?_
                exact (ai (r_sub [1, 2, 3, 4, 5, 6, 7, 8] rfl) (R_halves_201_run hk31 (fun _ _ _ _ _ _ _ _ _ _ q1 q3 => ih q1 q3) hL h))
              · refine ai (r_icmp_ne_t (pc := 128) (tgt := 135) (by decide +kernel : decode k_R_halves.2.1 128 = .ok (.if_icmp .ne (7), 3)) (by decide) c11) ?_
                exact (ai (r_sub [1, 2, 3, 4, 5, 6, 7, 8] rfl) (R_halves_135_run hk31 (fun _ _ _ _ _ _ _ _ _ _ q1 q3 => ih q1 q3) hL h))
          · refine ai (r_icmp_ne_t (pc := 112) (tgt := 139) (by decide +kernel : decode k_R_halves.2.1 112 = .ok (.if_icmp .ne (27), 3)) (by decide) c8) ?_
            refine ai (r_iload (pc := 139) (k := 5) (by decide +kernel : decode k_R_halves.2.1 139 = .ok (.iload 4, 2)) rfl) ?_
            refine ai (r_iconst (pc := 141) (by decide +kernel : decode k_R_halves.2.1 141 = .ok (.iconst 3, 1)) ic_3) ?_
            rcases ite_some h with ⟨c12, h⟩ | ⟨c12, h⟩
            · refine ai (r_icmp_ne_f (pc := 142) 165 (by decide +kernel : decode k_R_halves.2.1 142 = .ok (.if_icmp .ne (23), 3)) (by decide) c12) ?_
              refine ai (p_aload_n (pc := 145) (k := 1) (by decide +kernel : decode k_R_halves.2.1 145 = .ok (.aload_n 0, 1)) rfl rfl) ?_
              refine ai (p_getr (pc := 146) (RR_1632_0 hL) (by decide +kernel : decode k_R_halves.2.1 146 = .ok (.getfield 212, 3)) lg_12_212 (RC_0 hL).1) ?_
              refine ai (r_iload (pc := 149) (k := 8) (by decide +kernel : decode k_R_halves.2.1 149 = .ok (.iload 7, 2)) rfl) ?_
              obtain ⟨g13, h⟩ := gd_some h
              refine ai (p_iald (pc := 151) (by decide +kernel : decode k_R_halves.2.1 151 = .ok (.iaload, 1)) (RC_62 hL).1 (RC_62 hL).2 g13) ?_
              refine ai (r_bipush (pc := 152) (by decide +kernel : decode k_R_halves.2.1 152 = .ok (.bipush (-2), 2)) (by decide : _ = (-2 : Int32))) ?_
              rcases ite_some h with ⟨c14, h⟩ | ⟨c14, h⟩
              · refine ai (r_icmp_ne_f (pc := 154) 161 (by decide +kernel : decode k_R_halves.2.1 154 = .ok (.if_icmp .ne (7), 3)) (by decide) c14) ?_
                refine ai (r_iconst (pc := 157) (by decide +kernel : decode k_R_halves.2.1 157 = .ok (.iconst 1, 1)) ic_1) ?_
                refine ai (r_goto (pc := 158) (tgt := 201) (by decide +kernel : decode k_R_halves.2.1 158 = .ok (.goto (43), 3)) (by decide)) ?_
                exact (ai (r_sub [1, 2, 3, 4, 5, 6, 7, 8] rfl) (R_halves_201_run hk31 (fun _ _ _ _ _ _ _ _ _ _ q1 q3 => ih q1 q3) hL h))
              · refine ai (r_icmp_ne_t (pc := 154) (tgt := 161) (by decide +kernel : decode k_R_halves.2.1 154 = .ok (.if_icmp .ne (7), 3)) (by decide) c14) ?_
                refine ai (r_iconst (pc := 161) (by decide +kernel : decode k_R_halves.2.1 161 = .ok (.iconst 0, 1)) ic_0) ?_
                refine ai (r_goto (pc := 162) (tgt := 201) (by decide +kernel : decode k_R_halves.2.1 162 = .ok (.goto (39), 3)) (by decide)) ?_
                exact (ai (r_sub [1, 2, 3, 4, 5, 6, 7, 8] rfl) (R_halves_201_run hk31 (fun _ _ _ _ _ _ _ _ _ _ q1 q3 => ih q1 q3) hL h))
            · refine ai (r_icmp_ne_t (pc := 142) (tgt := 165) (by decide +kernel : decode k_R_halves.2.1 142 = .ok (.if_icmp .ne (23), 3)) (by decide) c12) ?_
              refine ai (p_aload_n (pc := 165) (k := 1) (by decide +kernel : decode k_R_halves.2.1 165 = .ok (.aload_n 0, 1)) rfl rfl) ?_
              refine ai (p_getr (pc := 166) (RR_1632_0 hL) (by decide +kernel : decode k_R_halves.2.1 166 = .ok (.getfield 212, 3)) lg_12_212 (RC_0 hL).1) ?_
              refine ai (r_iload (pc := 169) (k := 8) (by decide +kernel : decode k_R_halves.2.1 169 = .ok (.iload 7, 2)) rfl) ?_
              obtain ⟨g15, h⟩ := gd_some h
              refine ai (p_iald (pc := 171) (by decide +kernel : decode k_R_halves.2.1 171 = .ok (.iaload, 1)) (RC_62 hL).1 (RC_62 hL).2 g15) ?_
              rcases ite_some h with ⟨c16, h⟩ | ⟨c16, h⟩
              · refine ai (r_if_lt_t (pc := 172) (tgt := 200) (by decide +kernel : decode k_R_halves.2.1 172 = .ok (.ifCond .lt (28), 3)) (by decide) c16) ?_
                exact (ai (r_sub [1, 2, 3, 4, 5, 6, 7, 8] rfl) (R_halves_200_run hk31 (fun _ _ _ _ _ _ _ _ _ _ q1 q3 => ih q1 q3) hL h))
              · refine ai (r_if_lt_f (pc := 172) 200 (by decide +kernel : decode k_R_halves.2.1 172 = .ok (.ifCond .lt (28), 3)) (by decide) c16) ?_
                refine ai (p_aload_n (pc := 175) (k := 1) (by decide +kernel : decode k_R_halves.2.1 175 = .ok (.aload_n 0, 1)) rfl rfl) ?_
                refine ai (p_getr (pc := 176) (RR_1633_0 hL) (by decide +kernel : decode k_R_halves.2.1 176 = .ok (.getfield 215, 3)) lg_12_215 (RC_0 hL).1) ?_
                refine ai (r_iload (pc := 179) (k := 8) (by decide +kernel : decode k_R_halves.2.1 179 = .ok (.iload 7, 2)) rfl) ?_
                obtain ⟨g17, h⟩ := gd_some h
                refine ai (p_iald (pc := 181) (by decide +kernel : decode k_R_halves.2.1 181 = .ok (.iaload, 1)) (RC_63 hL).1 (RC_63 hL).2 g17) ?_
                refine ai (r_iconst (pc := 182) (by decide +kernel : decode k_R_halves.2.1 182 = .ok (.iconst (-1), 1)) ic_m1) ?_
                rcases ite_some h with ⟨c18, h⟩ | ⟨c18, h⟩
                · refine ai (r_icmp_ne_f (pc := 183) 200 (by decide +kernel : decode k_R_halves.2.1 183 = .ok (.if_icmp .ne (17), 3)) (by decide) c18) ?_
                  refine ai (p_aload_n (pc := 186) (k := 1) (by decide +kernel : decode k_R_halves.2.1 186 = .ok (.aload_n 0, 1)) rfl rfl) ?_
                  refine ai (r_iload (pc := 187) (k := 8) (by decide +kernel : decode k_R_halves.2.1 187 = .ok (.iload 7, 2)) rfl) ?_
                  obtain ⟨r19, m20, hr19, h⟩ := bn_some h
                  have q21 := R_payerOf_run hL hr19
                  have c22 := (RC_0 hL).1
                  have hL := q21.2
                  refine ai (q_callV (pc := 189) (As := [.int x7]) (st := []) (st2 := [.int r19]) (b := 0) rfl rfl (by decide +kernel : decode k_R_halves.2.1 189 = .ok (.invokevirtual 607, 3)) lc_12_607 mo_R_payerOf ⟨Nat.le_of_ble_eq_true rfl, Nat.le_of_ble_eq_true rfl⟩ (Nat.le_of_ble_eq_true rfl) (Nat.le_of_ble_eq_true rfl) c22 q21.1) ?_
                  refine ai (r_iconst (pc := 192) (by decide +kernel : decode k_R_halves.2.1 192 = .ok (.iconst (-1), 1)) ic_m1) ?_
                  rcases ite_some h with ⟨c23, h⟩ | ⟨c23, h⟩
                  · refine ai (r_icmp_ne_f (pc := 193) 200 (by decide +kernel : decode k_R_halves.2.1 193 = .ok (.if_icmp .ne (7), 3)) (by decide) c23) ?_
                    refine ai (r_iconst (pc := 196) (by decide +kernel : decode k_R_halves.2.1 196 = .ok (.iconst 1, 1)) ic_1) ?_
                    refine ai (r_goto (pc := 197) (tgt := 201) (by decide +kernel : decode k_R_halves.2.1 197 = .ok (.goto (4), 3)) (by decide)) ?_
                    exact (ai (r_sub [1, 2, 3, 4, 5, 6, 7, 8] rfl) (R_halves_201_run hk31 (fun _ _ _ _ _ _ _ _ _ _ q1 q3 => ih q1 q3) hL h))
                  · refine ai (r_icmp_ne_t (pc := 193) (tgt := 200) (by decide +kernel : decode k_R_halves.2.1 193 = .ok (.if_icmp .ne (7), 3)) (by decide) c23) ?_
                    exact (ai (r_sub [1, 2, 3, 4, 5, 6, 7, 8] rfl) (R_halves_200_run hk31 (fun _ _ _ _ _ _ _ _ _ _ q1 q3 => ih q1 q3) hL h))
                · refine ai (r_icmp_ne_t (pc := 183) (tgt := 200) (by decide +kernel : decode k_R_halves.2.1 183 = .ok (.if_icmp .ne (17), 3)) (by decide) c18) ?_
                  exact (ai (r_sub [1, 2, 3, 4, 5, 6, 7, 8] rfl) (R_halves_200_run hk31 (fun _ _ _ _ _ _ _ _ _ _ q1 q3 => ih q1 q3) hL h))
set_option maxRecDepth 100000 in
set_option maxHeartbeats 4000000 in
theorem R_halves_31_run {n : Nat} {x1 : Int32} {x2 : Int32} {x3 : Int32} {x4 : Int32} {x5 : Int32} {x6 : Int32} {m m' : Mem} {r : Int32} (hL : RL m) (h : R_halves_31 n x1 x2 x3 x4 x5 x6 m = some (r, m')) : Run k_R_halves 31 [(0, .ref 0), (1, .int x1), (2, .int x2), (3, .int x3), (4, .int x4), (5, .int x5), (6, .int x6)] [] m (some (.int r)) m' ∧ RL m' := by
  induction n generalizing x1 x2 x3 x4 x5 x6 m r m' with
  | zero => exact absurd h (by simp [R_halves_31])
  | succ n ih =>
    rw [R_halves_31.eq_2] at h
    refine ai (r_iload (pc := 31) (k := 6) (by decide +kernel : decode k_R_halves.2.1 31 = .ok (.iload 6, 2)) rfl) ?_
    refine ai (r_bipush (pc := 33) (by decide +kernel : decode k_R_halves.2.1 33 = .ok (.bipush (7), 2)) (by decide : _ = (7 : Int32))) ?_
    refine ai (r_iload_n (pc := 35) (k := 2) (by decide +kernel : decode k_R_halves.2.1 35 = .ok (.iload_n 2, 1)) rfl rfl) ?_
    refine ai (r_imul (pc := 36) (by decide +kernel : decode k_R_halves.2.1 36 = .ok (.imul, 1))) ?_
    refine ai (r_bipush (pc := 37) (by decide +kernel : decode k_R_halves.2.1 37 = .ok (.bipush (7), 2)) (by decide : _ = (7 : Int32))) ?_
    refine ai (r_iadd (pc := 39) (by decide +kernel : decode k_R_halves.2.1 39 = .ok (.iadd, 1))) ?_
    rcases ite_some h with ⟨c1, h⟩ | ⟨c1, h⟩
    · refine ai (r_icmp_ge_t (pc := 40) (tgt := 223) (by decide +kernel : decode k_R_halves.2.1 40 = .ok (.if_icmp .ge (183), 3)) (by decide) c1) ?_
      refine ai (r_iload (pc := 223) (k := 5) (by decide +kernel : decode k_R_halves.2.1 223 = .ok (.iload 5, 2)) rfl) ?_
      cases h
      exact ⟨r_iret rfl (by decide +kernel : decode k_R_halves.2.1 225 = .ok (.ireturn, 1)), hL⟩
    · refine ai (r_icmp_ge_f (pc := 40) 223 (by decide +kernel : decode k_R_halves.2.1 40 = .ok (.if_icmp .ge (183), 3)) (by decide) c1) ?_
      refine ai (p_aload_n (pc := 43) (k := 0) (by decide +kernel : decode k_R_halves.2.1 43 = .ok (.aload_n 0, 1)) rfl rfl) ?_
      refine ai (r_iload_n (pc := 44) (k := 1) (by decide +kernel : decode k_R_halves.2.1 44 = .ok (.iload_n 1, 1)) rfl rfl) ?_
      refine ai (r_iload (pc := 45) (k := 6) (by decide +kernel : decode k_R_halves.2.1 45 = .ok (.iload 6, 2)) rfl) ?_
      refine ai (r_iload_n (pc := 47) (k := 3) (by decide +kernel : decode k_R_halves.2.1 47 = .ok (.iload_n 3, 1)) rfl rfl) ?_
      obtain ⟨r2, m3, hr2, h⟩ := bn_some h
      have q4 := R_looks_run hL hr2
      have c5 := (RC_0 hL).1
      have hL := q4.2
      refine ai (q_callV (pc := 48) (As := [.int x1, .int x6, .int x3]) (st := []) (st2 := []) (b := 0) rfl rfl (by decide +kernel : decode k_R_halves.2.1 48 = .ok (.invokevirtual 601, 3)) lc_12_601 mo_R_looks ⟨Nat.le_of_ble_eq_true rfl, Nat.le_of_ble_eq_true rfl⟩ (Nat.le_of_ble_eq_true rfl) (Nat.le_of_ble_eq_true rfl) c5 q4.1) ?_
      refine ai (r_iconst (pc := 51) (by decide +kernel : decode k_R_halves.2.1 51 = .ok (.iconst 0, 1)) ic_0) ?_
      refine ai (e_istore (pc := 52) rfl (by decide +kernel : decode k_R_halves.2.1 52 = .ok (.istore 7, 2)) (by decide) rfl) ?_
      exact (ai (r_sub [1, 2, 3, 4, 5, 6, 7, 0] rfl) (R_halves_54_run (fun _ _ _ _ _ _ _ _ _ q1 q3 => ih q1 q3) hL h))
set_option maxRecDepth 100000 in
set_option maxHeartbeats 4000000 in
theorem R_halves_run {x1 : Int32} {x2 : Int32} {x3 : Int32} {x4 : Int32} {m m' : Mem} {r : Int32} (hL : RL m) (h : R_halves x1 x2 x3 x4 m = some (r, m')) : Run k_R_halves 0 [(0, .ref 0), (1, .int x1), (2, .int x2), (3, .int x3), (4, .int x4)] [] m (some (.int r)) m' ∧ RL m' := by
  unfold R_halves at h
  refine ai (p_aload_n (pc := 0) (k := 0) (by decide +kernel : decode k_R_halves.2.1 0 = .ok (.aload_n 0, 1)) rfl rfl) ?_
  refine ai (r_iload_n (pc := 1) (k := 1) (by decide +kernel : decode k_R_halves.2.1 1 = .ok (.iload_n 1, 1)) rfl rfl) ?_
  refine ai (r_iload_n (pc := 2) (k := 2) (by decide +kernel : decode k_R_halves.2.1 2 = .ok (.iload_n 2, 1)) rfl rfl) ?_
  refine ai (r_iload_n (pc := 3) (k := 3) (by decide +kernel : decode k_R_halves.2.1 3 = .ok (.iload_n 3, 1)) rfl rfl) ?_
  obtain ⟨r1, m2, hr1, h⟩ := bn_some h
  have q3 := R_isWeek_run hL hr1
  have c4 := (RC_0 hL).1
  have hL := q3.2
  refine ai (q_callV (pc := 4) (As := [.int x1, .int x2, .int x3]) (st := []) (st2 := [.int r1]) (b := 0) rfl rfl (by decide +kernel : decode k_R_halves.2.1 4 = .ok (.invokevirtual 622, 3)) lc_12_622 mo_R_isWeek ⟨Nat.le_of_ble_eq_true rfl, Nat.le_of_ble_eq_true rfl⟩ (Nat.le_of_ble_eq_true rfl) (Nat.le_of_ble_eq_true rfl) c4 q3.1) ?_
  rcases ite_some h with ⟨c5, h⟩ | ⟨c5, h⟩
  · refine ai (r_if_eq_t (pc := 7) (tgt := 20) (by decide +kernel : decode k_R_halves.2.1 7 = .ok (.ifCond .eq (13), 3)) (by decide) c5) ?_
    refine ai (r_iconst (pc := 20) (by decide +kernel : decode k_R_halves.2.1 20 = .ok (.iconst (-1), 1)) ic_m1) ?_
    cases h
    exact ⟨r_iret rfl (by decide +kernel : decode k_R_halves.2.1 21 = .ok (.ireturn, 1)), hL⟩
  · refine ai (r_if_eq_f (pc := 7) 20 (by decide +kernel : decode k_R_halves.2.1 7 = .ok (.ifCond .eq (13), 3)) (by decide) c5) ?_
    refine ai (r_iload (pc := 10) (k := 4) (by decide +kernel : decode k_R_halves.2.1 10 = .ok (.iload 4, 2)) rfl) ?_
    refine ai (r_iconst (pc := 12) (by decide +kernel : decode k_R_halves.2.1 12 = .ok (.iconst 0, 1)) ic_0) ?_
    refine ai (r_iconst (pc := 13) (by decide +kernel : decode k_R_halves.2.1 13 = .ok (.iconst 4, 1)) ic_4) ?_
    obtain ⟨r6, hr6, h⟩ := bp_some h
    refine ai (q_callS (pc := 14) (As := [.int x4, .int 0, .int 4]) (st := []) (st2 := [.int r6]) rfl rfl (by decide +kernel : decode k_R_halves.2.1 14 = .ok (.invokestatic 433, 3)) lc_12_433 mo_R_in ⟨Nat.le_of_ble_eq_true rfl, Nat.le_of_ble_eq_true rfl⟩ (Nat.le_of_ble_eq_true rfl) (Nat.le_of_ble_eq_true rfl) (R_in_run hr6)) ?_
    rcases ite_some h with ⟨c7, h⟩ | ⟨c7, h⟩
    · refine ai (r_if_ne_f (pc := 17) 22 (by decide +kernel : decode k_R_halves.2.1 17 = .ok (.ifCond .ne (5), 3)) (by decide) c7) ?_
      refine ai (r_iconst (pc := 20) (by decide +kernel : decode k_R_halves.2.1 20 = .ok (.iconst (-1), 1)) ic_m1) ?_
      cases h
      exact ⟨r_iret rfl (by decide +kernel : decode k_R_halves.2.1 21 = .ok (.ireturn, 1)), hL⟩
    · refine ai (r_if_ne_t (pc := 17) (tgt := 22) (by decide +kernel : decode k_R_halves.2.1 17 = .ok (.ifCond .ne (5), 3)) (by decide) c7) ?_
      refine ai (r_iconst (pc := 22) (by decide +kernel : decode k_R_halves.2.1 22 = .ok (.iconst 0, 1)) ic_0) ?_
      refine ai (e_istore (pc := 23) rfl (by decide +kernel : decode k_R_halves.2.1 23 = .ok (.istore 5, 2)) (by decide) rfl) ?_
      refine ai (r_bipush (pc := 25) (by decide +kernel : decode k_R_halves.2.1 25 = .ok (.bipush (7), 2)) (by decide : _ = (7 : Int32))) ?_
      refine ai (r_iload_n (pc := 27) (k := 3) (by decide +kernel : decode k_R_halves.2.1 27 = .ok (.iload_n 2, 1)) rfl rfl) ?_
      refine ai (r_imul (pc := 28) (by decide +kernel : decode k_R_halves.2.1 28 = .ok (.imul, 1))) ?_
      obtain ⟨v8, hv8, h⟩ := vb_some h
      refine ai (e_istore (pc := 29) hv8 (by decide +kernel : decode k_R_halves.2.1 29 = .ok (.istore 6, 2)) (by decide) rfl) ?_
      exact (ai (r_sub [2, 3, 4, 5, 6, 1, 0] rfl) (R_halves_31_run hL h))
set_option maxRecDepth 100000 in
set_option maxHeartbeats 4000000 in
theorem R_owedOf_65_run {k12 : Int32 → Int32 → Int32 → Int64 → Int32 → Mem → Option (Int64 × Mem)} {x1 : Int32} {x2 : Int32} {x3 : Int32} {x4 : Int64} {x6 : Int32} {m m' : Mem} {r : Int64} (hk12 : ∀ (x1 : Int32) (x2 : Int32) (x3 : Int32) (x4 : Int64) (x6 : Int32) (m : Mem) (r : Int64) (m' : Mem), RL m → k12 x1 x2 x3 x4 x6 m = some (r, m') → Run k_R_owedOf 12 [(0, .ref 0), (1, .int x1), (2, .int x2), (3, .int x3), (4, .long x4), (6, .int x6)] [] m (some (.long r)) m' ∧ RL m') (hL : RL m) (h : R_owedOf_65 k12 x1 x2 x3 x4 x6 m = some (r, m')) : Run k_R_owedOf 65 [(0, .ref 0), (1, .int x1), (2, .int x2), (3, .int x3), (4, .long x4), (6, .int x6)] [] m (some (.long r)) m' ∧ RL m' := by
  unfold R_owedOf_65 at h
  obtain ⟨v1, hv1, h⟩ := vb_some h
  refine ai (e_iinc (pc := 65) (k := 5) hv1 ic_1 (by decide +kernel : decode k_R_owedOf.2.1 65 = .ok (.iinc 6 (1), 3)) rfl (by decide) rfl) ?_
  refine ai (r_goto (pc := 68) (tgt := 12) (by decide +kernel : decode k_R_owedOf.2.1 68 = .ok (.goto (-56), 3)) (by decide)) ?_
  exact (ai (r_sub [1, 2, 3, 4, 5, 0] rfl) (hk12 x1 x2 x3 x4 v1 m _ _ hL h))
set_option maxRecDepth 100000 in
set_option maxHeartbeats 4000000 in
theorem R_owedOf_12_run {n : Nat} {x1 : Int32} {x2 : Int32} {x3 : Int32} {x4 : Int64} {x6 : Int32} {m m' : Mem} {r : Int64} (hL : RL m) (h : R_owedOf_12 n x1 x2 x3 x4 x6 m = some (r, m')) : Run k_R_owedOf 12 [(0, .ref 0), (1, .int x1), (2, .int x2), (3, .int x3), (4, .long x4), (6, .int x6)] [] m (some (.long r)) m' ∧ RL m' := by
  induction n generalizing x1 x2 x3 x4 x6 m r m' with
  | zero => exact absurd h (by simp [R_owedOf_12])
  | succ n ih =>
    rw [R_owedOf_12.eq_2] at h
    refine ai (r_iload (pc := 12) (k := 5) (by decide +kernel : decode k_R_owedOf.2.1 12 = .ok (.iload 6, 2)) rfl) ?_
    refine ai (r_iload_n (pc := 14) (k := 3) (by decide +kernel : decode k_R_owedOf.2.1 14 = .ok (.iload_n 3, 1)) rfl rfl) ?_
    rcases ite_some h with ⟨c1, h⟩ | ⟨c1, h⟩
    · refine ai (r_icmp_ge_t (pc := 15) (tgt := 71) (by decide +kernel : decode k_R_owedOf.2.1 15 = .ok (.if_icmp .ge (56), 3)) (by decide) c1) ?_
      refine ai (r_lload (pc := 71) (k := 4) (by decide +kernel : decode k_R_owedOf.2.1 71 = .ok (.lload 4, 2)) rfl) ?_
      cases h
      exact ⟨r_lret rfl (by decide +kernel : decode k_R_owedOf.2.1 73 = .ok (.lreturn, 1)), hL⟩
    · refine ai (r_icmp_ge_f (pc := 15) 71 (by decide +kernel : decode k_R_owedOf.2.1 15 = .ok (.if_icmp .ge (56), 3)) (by decide) c1) ?_
      refine ai (p_aload_n (pc := 18) (k := 0) (by decide +kernel : decode k_R_owedOf.2.1 18 = .ok (.aload_n 0, 1)) rfl rfl) ?_
      refine ai (p_getr (pc := 19) (RR_1602_0 hL) (by decide +kernel : decode k_R_owedOf.2.1 19 = .ok (.getfield 149, 3)) lg_12_149 (RC_0 hL).1) ?_
      refine ai (r_iload (pc := 22) (k := 5) (by decide +kernel : decode k_R_owedOf.2.1 22 = .ok (.iload 6, 2)) rfl) ?_
      obtain ⟨g2, h⟩ := gd_some h
      refine ai (p_iald (pc := 24) (by decide +kernel : decode k_R_owedOf.2.1 24 = .ok (.iaload, 1)) (RC_44 hL).1 (RC_44 hL).2 g2) ?_
      refine ai (r_bipush (pc := 25) (by decide +kernel : decode k_R_owedOf.2.1 25 = .ok (.bipush (9), 2)) (by decide : _ = (9 : Int32))) ?_
      rcases ite_some h with ⟨c3, h⟩ | ⟨c3, h⟩
      · refine ai (r_icmp_ne_f (pc := 27) 65 (by decide +kernel : decode k_R_owedOf.2.1 27 = .ok (.if_icmp .ne (38), 3)) (by decide) c3) ?_
        refine ai (p_aload_n (pc := 30) (k := 0) (by decide +kernel : decode k_R_owedOf.2.1 30 = .ok (.aload_n 0, 1)) rfl rfl) ?_
        refine ai (p_getr (pc := 31) (RR_1603_0 hL) (by decide +kernel : decode k_R_owedOf.2.1 31 = .ok (.getfield 152, 3)) lg_12_152 (RC_0 hL).1) ?_
        refine ai (r_iload (pc := 34) (k := 5) (by decide +kernel : decode k_R_owedOf.2.1 34 = .ok (.iload 6, 2)) rfl) ?_
        obtain ⟨g4, h⟩ := gd_some h
        refine ai (p_iald (pc := 36) (by decide +kernel : decode k_R_owedOf.2.1 36 = .ok (.iaload, 1)) (RC_45 hL).1 (RC_45 hL).2 g4) ?_
        refine ai (r_iload_n (pc := 37) (k := 1) (by decide +kernel : decode k_R_owedOf.2.1 37 = .ok (.iload_n 1, 1)) rfl rfl) ?_
        rcases ite_some h with ⟨c5, h⟩ | ⟨c5, h⟩
        · refine ai (r_icmp_ne_f (pc := 38) 65 (by decide +kernel : decode k_R_owedOf.2.1 38 = .ok (.if_icmp .ne (27), 3)) (by decide) c5) ?_
          refine ai (p_aload_n (pc := 41) (k := 0) (by decide +kernel : decode k_R_owedOf.2.1 41 = .ok (.aload_n 0, 1)) rfl rfl) ?_
          refine ai (p_getr (pc := 42) (RR_1604_0 hL) (by decide +kernel : decode k_R_owedOf.2.1 42 = .ok (.getfield 155, 3)) lg_12_155 (RC_0 hL).1) ?_
          refine ai (r_iload (pc := 45) (k := 5) (by decide +kernel : decode k_R_owedOf.2.1 45 = .ok (.iload 6, 2)) rfl) ?_
          obtain ⟨g6, h⟩ := gd_some h
          refine ai (p_iald (pc := 47) (by decide +kernel : decode k_R_owedOf.2.1 47 = .ok (.iaload, 1)) (RC_46 hL).1 (RC_46 hL).2 g6) ?_
          refine ai (r_iload_n (pc := 48) (k := 2) (by decide +kernel : decode k_R_owedOf.2.1 48 = .ok (.iload_n 2, 1)) rfl rfl) ?_
          rcases ite_some h with ⟨c7, h⟩ | ⟨c7, h⟩
          · refine ai (r_icmp_ne_f (pc := 49) 65 (by decide +kernel : decode k_R_owedOf.2.1 49 = .ok (.if_icmp .ne (16), 3)) (by decide) c7) ?_
            refine ai (r_lload (pc := 52) (k := 4) (by decide +kernel : decode k_R_owedOf.2.1 52 = .ok (.lload 4, 2)) rfl) ?_
            refine ai (p_aload_n (pc := 54) (k := 0) (by decide +kernel : decode k_R_owedOf.2.1 54 = .ok (.aload_n 0, 1)) rfl rfl) ?_
            refine ai (p_getr (pc := 55) (RR_1606_0 hL) (by decide +kernel : decode k_R_owedOf.2.1 55 = .ok (.getfield 161, 3)) lg_12_161 (RC_0 hL).1) ?_
            refine ai (r_iload (pc := 58) (k := 5) (by decide +kernel : decode k_R_owedOf.2.1 58 = .ok (.iload 6, 2)) rfl) ?_
            obtain ⟨g8, h⟩ := gd_some h
            refine ai (p_iald (pc := 60) (by decide +kernel : decode k_R_owedOf.2.1 60 = .ok (.iaload, 1)) (RC_48 hL).1 (RC_48 hL).2 g8) ?_
            refine ai (r_i2l (pc := 61) (by decide +kernel : decode k_R_owedOf.2.1 61 = .ok (.i2l, 1))) ?_
            refine ai (r_lsub (pc := 62) (by decide +kernel : decode k_R_owedOf.2.1 62 = .ok (.lsub, 1))) ?_
            obtain ⟨v9, hv9, h⟩ := vb_some h
            refine ai (e_lstore (pc := 63) hv9 (by decide +kernel : decode k_R_owedOf.2.1 63 = .ok (.lstore 4, 2)) (by decide) rfl) ?_
            exact (ai (r_sub [1, 2, 3, 4, 0, 5] rfl) (R_owedOf_65_run (fun _ _ _ _ _ _ _ _ q1 q3 => ih q1 q3) hL h))
          · refine ai (r_icmp_ne_t (pc := 49) (tgt := 65) (by decide +kernel : decode k_R_owedOf.2.1 49 = .ok (.if_icmp .ne (16), 3)) (by decide) c7) ?_
            exact (R_owedOf_65_run (fun _ _ _ _ _ _ _ _ q1 q3 => ih q1 q3) hL h)
        · refine ai (r_icmp_ne_t (pc := 38) (tgt := 65) (by decide +kernel : decode k_R_owedOf.2.1 38 = .ok (.if_icmp .ne (27), 3)) (by decide) c5) ?_
          exact (R_owedOf_65_run (fun _ _ _ _ _ _ _ _ q1 q3 => ih q1 q3) hL h)
      · refine ai (r_icmp_ne_t (pc := 27) (tgt := 65) (by decide +kernel : decode k_R_owedOf.2.1 27 = .ok (.if_icmp .ne (38), 3)) (by decide) c3) ?_
        exact (R_owedOf_65_run (fun _ _ _ _ _ _ _ _ q1 q3 => ih q1 q3) hL h)
set_option maxRecDepth 100000 in
set_option maxHeartbeats 4000000 in
theorem R_owedOf_run {x1 : Int32} {x2 : Int32} {x3 : Int32} {m m' : Mem} {r : Int64} (hL : RL m) (h : R_owedOf x1 x2 x3 m = some (r, m')) : Run k_R_owedOf 0 [(0, .ref 0), (1, .int x1), (2, .int x2), (3, .int x3)] [] m (some (.long r)) m' ∧ RL m' := by
  unfold R_owedOf at h
  refine ai (p_aload_n (pc := 0) (k := 0) (by decide +kernel : decode k_R_owedOf.2.1 0 = .ok (.aload_n 0, 1)) rfl rfl) ?_
  refine ai (r_iload_n (pc := 1) (k := 1) (by decide +kernel : decode k_R_owedOf.2.1 1 = .ok (.iload_n 1, 1)) rfl rfl) ?_
  refine ai (r_iload_n (pc := 2) (k := 2) (by decide +kernel : decode k_R_owedOf.2.1 2 = .ok (.iload_n 2, 1)) rfl rfl) ?_
  refine ai (r_iload_n (pc := 3) (k := 3) (by decide +kernel : decode k_R_owedOf.2.1 3 = .ok (.iload_n 3, 1)) rfl rfl) ?_
  obtain ⟨r1, m2, hr1, h⟩ := bn_some h
  have q3 := R_payOf_run hL hr1
  have c4 := (RC_0 hL).1
  have hL := q3.2
  refine ai (q_callV (pc := 4) (As := [.int x1, .int x2, .int x3]) (st := []) (st2 := [.long r1]) (b := 0) rfl rfl (by decide +kernel : decode k_R_owedOf.2.1 4 = .ok (.invokevirtual 625, 3)) lc_12_625 mo_R_payOf ⟨Nat.le_of_ble_eq_true rfl, Nat.le_of_ble_eq_true rfl⟩ (Nat.le_of_ble_eq_true rfl) (Nat.le_of_ble_eq_true rfl) c4 q3.1) ?_
  refine ai (e_lstore (pc := 7) rfl (by decide +kernel : decode k_R_owedOf.2.1 7 = .ok (.lstore 4, 2)) (by decide) rfl) ?_
  refine ai (r_iconst (pc := 9) (by decide +kernel : decode k_R_owedOf.2.1 9 = .ok (.iconst 0, 1)) ic_0) ?_
  refine ai (e_istore (pc := 10) rfl (by decide +kernel : decode k_R_owedOf.2.1 10 = .ok (.istore 6, 2)) (by decide) rfl) ?_
  exact (ai (r_sub [2, 3, 4, 5, 1, 0] rfl) (R_owedOf_12_run hL h))
set_option maxRecDepth 100000 in
set_option maxHeartbeats 4000000 in
theorem R_owed_run {x1 : Int32} {x2 : Int32} {x3 : Int32} {m m' : Mem} {r : Int32} (hL : RL m) (h : R_owed x1 x2 x3 m = some (r, m')) : Run k_R_owed 0 [(0, .ref 0), (1, .int x1), (2, .int x2), (3, .int x3)] [] m (some (.int r)) m' ∧ RL m' := by
  unfold R_owed at h
  refine ai (p_aload_n (pc := 0) (k := 0) (by decide +kernel : decode k_R_owed.2.1 0 = .ok (.aload_n 0, 1)) rfl rfl) ?_
  refine ai (r_iload_n (pc := 1) (k := 1) (by decide +kernel : decode k_R_owed.2.1 1 = .ok (.iload_n 1, 1)) rfl rfl) ?_
  refine ai (r_iload_n (pc := 2) (k := 2) (by decide +kernel : decode k_R_owed.2.1 2 = .ok (.iload_n 2, 1)) rfl rfl) ?_
  refine ai (r_iload_n (pc := 3) (k := 3) (by decide +kernel : decode k_R_owed.2.1 3 = .ok (.iload_n 3, 1)) rfl rfl) ?_
  obtain ⟨r1, m2, hr1, h⟩ := bn_some h
  have q3 := R_isWeek_run hL hr1
  have c4 := (RC_0 hL).1
  have hL := q3.2
  refine ai (q_callV (pc := 4) (As := [.int x1, .int x2, .int x3]) (st := []) (st2 := [.int r1]) (b := 0) rfl rfl (by decide +kernel : decode k_R_owed.2.1 4 = .ok (.invokevirtual 622, 3)) lc_12_622 mo_R_isWeek ⟨Nat.le_of_ble_eq_true rfl, Nat.le_of_ble_eq_true rfl⟩ (Nat.le_of_ble_eq_true rfl) (Nat.le_of_ble_eq_true rfl) c4 q3.1) ?_
  rcases ite_some h with ⟨c5, h⟩ | ⟨c5, h⟩
  · refine ai (r_if_eq_t (pc := 7) (tgt := 21) (by decide +kernel : decode k_R_owed.2.1 7 = .ok (.ifCond .eq (14), 3)) (by decide) c5) ?_
    refine ai (r_iconst (pc := 21) (by decide +kernel : decode k_R_owed.2.1 21 = .ok (.iconst 0, 1)) ic_0) ?_
    cases h
    exact ⟨r_iret rfl (by decide +kernel : decode k_R_owed.2.1 22 = .ok (.ireturn, 1)), hL⟩
  · refine ai (r_if_eq_f (pc := 7) 21 (by decide +kernel : decode k_R_owed.2.1 7 = .ok (.ifCond .eq (14), 3)) (by decide) c5) ?_
    refine ai (p_aload_n (pc := 10) (k := 0) (by decide +kernel : decode k_R_owed.2.1 10 = .ok (.aload_n 0, 1)) rfl rfl) ?_
    refine ai (r_iload_n (pc := 11) (k := 1) (by decide +kernel : decode k_R_owed.2.1 11 = .ok (.iload_n 1, 1)) rfl rfl) ?_
    refine ai (r_iload_n (pc := 12) (k := 2) (by decide +kernel : decode k_R_owed.2.1 12 = .ok (.iload_n 2, 1)) rfl rfl) ?_
    refine ai (r_iload_n (pc := 13) (k := 3) (by decide +kernel : decode k_R_owed.2.1 13 = .ok (.iload_n 3, 1)) rfl rfl) ?_
    obtain ⟨r6, m7, hr6, h⟩ := bn_some h
    have q8 := R_owedOf_run hL hr6
    have c9 := (RC_0 hL).1
    have hL := q8.2
    refine ai (q_callV (pc := 14) (As := [.int x1, .int x2, .int x3]) (st := []) (st2 := [.long r6]) (b := 0) rfl rfl (by decide +kernel : decode k_R_owed.2.1 14 = .ok (.invokevirtual 629, 3)) lc_12_629 mo_R_owedOf ⟨Nat.le_of_ble_eq_true rfl, Nat.le_of_ble_eq_true rfl⟩ (Nat.le_of_ble_eq_true rfl) (Nat.le_of_ble_eq_true rfl) c9 q8.1) ?_
    refine ai (r_l2i (pc := 17) (by decide +kernel : decode k_R_owed.2.1 17 = .ok (.l2i, 1))) ?_
    refine ai (r_goto (pc := 18) (tgt := 22) (by decide +kernel : decode k_R_owed.2.1 18 = .ok (.goto (4), 3)) (by decide)) ?_
    cases h
    exact ⟨r_iret rfl (by decide +kernel : decode k_R_owed.2.1 22 = .ok (.ireturn, 1)), hL⟩
set_option maxRecDepth 100000 in
set_option maxHeartbeats 4000000 in
theorem R_shorted_21_run {m m' : Mem} {r : Int64} (hL : RL m) (h : R_shorted_21 m = some (r, m')) : Run k_R_shorted 21 [] [] m (some (.long r)) m' ∧ RL m' := by
  unfold R_shorted_21 at h
  refine ai (r_ldc2_w (pc := 21) (by decide +kernel : decode k_R_shorted.2.1 21 = .ok (.ldc2_w 632, 3)) lk_12_632) ?_
  cases h
  exact ⟨r_lret rfl (by decide +kernel : decode k_R_shorted.2.1 24 = .ok (.lreturn, 1)), hL⟩
set_option maxRecDepth 100000 in
set_option maxHeartbeats 4000000 in
theorem R_shorted_67_run {k31 : Int32 → Int32 → Int32 → Int32 → Int64 → Int32 → Mem → Option (Int64 × Mem)} {x1 : Int32} {x3 : Int32} {x4 : Int32} {x5 : Int32} {x6 : Int64} {x8 : Int32} {m m' : Mem} {r : Int64} (hk31 : ∀ (x1 : Int32) (x3 : Int32) (x4 : Int32) (x5 : Int32) (x6 : Int64) (x8 : Int32) (m : Mem) (r : Int64) (m' : Mem), RL m → k31 x1 x3 x4 x5 x6 x8 m = some (r, m') → Run k_R_shorted 31 [(0, .ref 0), (1, .int x1), (3, .int x3), (4, .int x4), (5, .int x5), (6, .long x6), (8, .int x8)] [] m (some (.long r)) m' ∧ RL m') (hL : RL m) (h : R_shorted_67 k31 x1 x3 x4 x5 x6 x8 m = some (r, m')) : Run k_R_shorted 67 [(0, .ref 0), (1, .int x1), (3, .int x3), (4, .int x4), (5, .int x5), (6, .long x6), (8, .int x8)] [] m (some (.long r)) m' ∧ RL m' := by
  unfold R_shorted_67 at h
  obtain ⟨v1, hv1, h⟩ := vb_some h
  refine ai (e_iinc (pc := 67) (k := 6) hv1 ic_1 (by decide +kernel : decode k_R_shorted.2.1 67 = .ok (.iinc 8 (1), 3)) rfl (by decide) rfl) ?_
  refine ai (r_goto (pc := 70) (tgt := 31) (by decide +kernel : decode k_R_shorted.2.1 70 = .ok (.goto (-39), 3)) (by decide)) ?_
  exact (ai (r_sub [1, 2, 3, 4, 5, 6, 0] rfl) (hk31 x1 x3 x4 x5 x6 v1 m _ _ hL h))
set_option maxRecDepth 100000 in
set_option maxHeartbeats 4000000 in
theorem R_shorted_60_run {k31 : Int32 → Int32 → Int32 → Int32 → Int64 → Int32 → Mem → Option (Int64 × Mem)} {x1 : Int32} {x3 : Int32} {x4 : Int32} {x5 : Int32} {x6 : Int64} {x8 : Int32} {x9 : Int64} {m m' : Mem} {r : Int64} (hk31 : ∀ (x1 : Int32) (x3 : Int32) (x4 : Int32) (x5 : Int32) (x6 : Int64) (x8 : Int32) (m : Mem) (r : Int64) (m' : Mem), RL m → k31 x1 x3 x4 x5 x6 x8 m = some (r, m') → Run k_R_shorted 31 [(0, .ref 0), (1, .int x1), (3, .int x3), (4, .int x4), (5, .int x5), (6, .long x6), (8, .int x8)] [] m (some (.long r)) m' ∧ RL m') (hL : RL m) (h : R_shorted_60 k31 x1 x3 x4 x5 x6 x8 x9 m = some (r, m')) : Run k_R_shorted 60 [(0, .ref 0), (1, .int x1), (3, .int x3), (4, .int x4), (5, .int x5), (6, .long x6), (8, .int x8), (9, .long x9)] [] m (some (.long r)) m' ∧ RL m' := by
  unfold R_shorted_60 at h
  refine ai (r_lload (pc := 60) (k := 5) (by decide +kernel : decode k_R_shorted.2.1 60 = .ok (.lload 6, 2)) rfl) ?_
  refine ai (r_lload (pc := 62) (k := 7) (by decide +kernel : decode k_R_shorted.2.1 62 = .ok (.lload 9, 2)) rfl) ?_
  refine ai (r_ladd (pc := 64) (by decide +kernel : decode k_R_shorted.2.1 64 = .ok (.ladd, 1))) ?_
  obtain ⟨v1, hv1, h⟩ := vb_some h
  refine ai (e_lstore (pc := 65) hv1 (by decide +kernel : decode k_R_shorted.2.1 65 = .ok (.lstore 6, 2)) (by decide) rfl) ?_
  exact (ai (r_sub [1, 2, 3, 4, 5, 0, 6] rfl) (R_shorted_67_run hk31 hL h))
set_option maxRecDepth 100000 in
set_option maxHeartbeats 4000000 in
theorem R_shorted_73_run {x6 : Int64} {m m' : Mem} {r : Int64} (hL : RL m) (h : R_shorted_73 x6 m = some (r, m')) : Run k_R_shorted 73 [(6, .long x6)] [] m (some (.long r)) m' ∧ RL m' := by
  unfold R_shorted_73 at h
  refine ai (r_lload (pc := 73) (k := 0) (by decide +kernel : decode k_R_shorted.2.1 73 = .ok (.lload 6, 2)) rfl) ?_
  refine ai (r_lconst (pc := 75) (x := 0) (by decide +kernel : decode k_R_shorted.2.1 75 = .ok (.lconst 0, 1)) (by decide)) ?_
  refine ai (r_lcmp (pc := 76) (by decide +kernel : decode k_R_shorted.2.1 76 = .ok (.lcmp, 1))) ?_
  rcases ite_some h with ⟨c1, h⟩ | ⟨c1, h⟩
  · refine ai (r_if_ge_t (pc := 77) (tgt := 84) (by decide +kernel : decode k_R_shorted.2.1 77 = .ok (.ifCond .ge (7), 3)) (by decide) c1) ?_
    refine ai (r_lload (pc := 84) (k := 0) (by decide +kernel : decode k_R_shorted.2.1 84 = .ok (.lload 6, 2)) rfl) ?_
    cases h
    exact ⟨r_lret rfl (by decide +kernel : decode k_R_shorted.2.1 86 = .ok (.lreturn, 1)), hL⟩
  · refine ai (r_if_ge_f (pc := 77) 84 (by decide +kernel : decode k_R_shorted.2.1 77 = .ok (.ifCond .ge (7), 3)) (by decide) c1) ?_
    refine ai (r_lconst (pc := 80) (x := 0) (by decide +kernel : decode k_R_shorted.2.1 80 = .ok (.lconst 0, 1)) (by decide)) ?_
    refine ai (r_goto (pc := 81) (tgt := 86) (by decide +kernel : decode k_R_shorted.2.1 81 = .ok (.goto (5), 3)) (by decide)) ?_
    cases h
    exact ⟨r_lret rfl (by decide +kernel : decode k_R_shorted.2.1 86 = .ok (.lreturn, 1)), hL⟩
set_option maxRecDepth 100000 in
set_option maxHeartbeats 4000000 in
theorem R_shorted_31_run {n : Nat} {x1 : Int32} {x3 : Int32} {x4 : Int32} {x5 : Int32} {x6 : Int64} {x8 : Int32} {m m' : Mem} {r : Int64} (hL : RL m) (h : R_shorted_31 n x1 x3 x4 x5 x6 x8 m = some (r, m')) : Run k_R_shorted 31 [(0, .ref 0), (1, .int x1), (3, .int x3), (4, .int x4), (5, .int x5), (6, .long x6), (8, .int x8)] [] m (some (.long r)) m' ∧ RL m' := by
  induction n generalizing x1 x3 x4 x5 x6 x8 m r m' with
  | zero => exact absurd h (by simp [R_shorted_31])
  | succ n ih =>
    rw [R_shorted_31.eq_2] at h
    refine ai (r_iload (pc := 31) (k := 6) (by decide +kernel : decode k_R_shorted.2.1 31 = .ok (.iload 8, 2)) rfl) ?_
    refine ai (r_iload_n (pc := 33) (k := 2) (by decide +kernel : decode k_R_shorted.2.1 33 = .ok (.iload_n 3, 1)) rfl rfl) ?_
    rcases ite_some h with ⟨c1, h⟩ | ⟨c1, h⟩
    · refine ai (r_icmp_gt_t (pc := 34) (tgt := 73) (by decide +kernel : decode k_R_shorted.2.1 34 = .ok (.if_icmp .gt (39), 3)) (by decide) c1) ?_
      exact (ai (r_sub [5] rfl) (R_shorted_73_run hL h))
    · refine ai (r_icmp_gt_f (pc := 34) 73 (by decide +kernel : decode k_R_shorted.2.1 34 = .ok (.if_icmp .gt (39), 3)) (by decide) c1) ?_
      refine ai (p_aload_n (pc := 37) (k := 0) (by decide +kernel : decode k_R_shorted.2.1 37 = .ok (.aload_n 0, 1)) rfl rfl) ?_
      refine ai (r_iload_n (pc := 38) (k := 1) (by decide +kernel : decode k_R_shorted.2.1 38 = .ok (.iload_n 1, 1)) rfl rfl) ?_
      refine ai (r_iload (pc := 39) (k := 6) (by decide +kernel : decode k_R_shorted.2.1 39 = .ok (.iload 8, 2)) rfl) ?_
      refine ai (r_iload (pc := 41) (k := 4) (by decide +kernel : decode k_R_shorted.2.1 41 = .ok (.iload 5, 2)) rfl) ?_
      obtain ⟨r2, m3, hr2, h⟩ := bn_some h
      have q4 := R_owedOf_run hL hr2
      have c5 := (RC_0 hL).1
      have hL := q4.2
      refine ai (q_callV (pc := 43) (As := [.int x1, .int x8, .int x5]) (st := []) (st2 := [.long r2]) (b := 0) rfl rfl (by decide +kernel : decode k_R_shorted.2.1 43 = .ok (.invokevirtual 629, 3)) lc_12_629 mo_R_owedOf ⟨Nat.le_of_ble_eq_true rfl, Nat.le_of_ble_eq_true rfl⟩ (Nat.le_of_ble_eq_true rfl) (Nat.le_of_ble_eq_true rfl) c5 q4.1) ?_
      refine ai (e_lstore (pc := 46) rfl (by decide +kernel : decode k_R_shorted.2.1 46 = .ok (.lstore 9, 2)) (by decide) rfl) ?_
      refine ai (r_lload (pc := 48) (k := 0) (by decide +kernel : decode k_R_shorted.2.1 48 = .ok (.lload 9, 2)) rfl) ?_
      refine ai (r_lconst (pc := 50) (x := 0) (by decide +kernel : decode k_R_shorted.2.1 50 = .ok (.lconst 0, 1)) (by decide)) ?_
      refine ai (r_lcmp (pc := 51) (by decide +kernel : decode k_R_shorted.2.1 51 = .ok (.lcmp, 1))) ?_
      rcases ite_some h with ⟨c6, h⟩ | ⟨c6, h⟩
      · refine ai (r_if_gt_t (pc := 52) (tgt := 60) (by decide +kernel : decode k_R_shorted.2.1 52 = .ok (.ifCond .gt (8), 3)) (by decide) c6) ?_
        exact (ai (r_sub [1, 2, 3, 4, 5, 6, 7, 0] rfl) (R_shorted_60_run (fun _ _ _ _ _ _ _ _ _ q1 q3 => ih q1 q3) hL h))
      · refine ai (r_if_gt_f (pc := 52) 60 (by decide +kernel : decode k_R_shorted.2.1 52 = .ok (.ifCond .gt (8), 3)) (by decide) c6) ?_
        refine ai (r_iload (pc := 55) (k := 4) (by decide +kernel : decode k_R_shorted.2.1 55 = .ok (.iload 4, 2)) rfl) ?_
        rcases ite_some h with ⟨c7, h⟩ | ⟨c7, h⟩
        · refine ai (r_if_eq_t (pc := 57) (tgt := 67) (by decide +kernel : decode k_R_shorted.2.1 57 = .ok (.ifCond .eq (10), 3)) (by decide) c7) ?_
          exact (ai (r_sub [1, 2, 3, 4, 5, 6, 7] rfl) (R_shorted_67_run (fun _ _ _ _ _ _ _ _ _ q1 q3 => ih q1 q3) hL h))
        · refine ai (r_if_eq_f (pc := 57) 67 (by decide +kernel : decode k_R_shorted.2.1 57 = .ok (.ifCond .eq (10), 3)) (by decide) c7) ?_
          exact (ai (r_sub [1, 2, 3, 4, 5, 6, 7, 0] rfl) (R_shorted_60_run (fun _ _ _ _ _ _ _ _ _ q1 q3 => ih q1 q3) hL h))
set_option maxRecDepth 100000 in
set_option maxHeartbeats 4000000 in
theorem R_shorted_run {x1 : Int32} {x2 : Int32} {x3 : Int32} {x4 : Int32} {x5 : Int32} {m m' : Mem} {r : Int64} (hL : RL m) (h : R_shorted x1 x2 x3 x4 x5 m = some (r, m')) : Run k_R_shorted 0 [(0, .ref 0), (1, .int x1), (2, .int x2), (3, .int x3), (4, .int x4), (5, .int x5)] [] m (some (.long r)) m' ∧ RL m' := by
  unfold R_shorted at h
  refine ai (p_aload_n (pc := 0) (k := 0) (by decide +kernel : decode k_R_shorted.2.1 0 = .ok (.aload_n 0, 1)) rfl rfl) ?_
  refine ai (r_iload_n (pc := 1) (k := 1) (by decide +kernel : decode k_R_shorted.2.1 1 = .ok (.iload_n 1, 1)) rfl rfl) ?_
  refine ai (r_iload_n (pc := 2) (k := 2) (by decide +kernel : decode k_R_shorted.2.1 2 = .ok (.iload_n 2, 1)) rfl rfl) ?_
  refine ai (r_iload (pc := 3) (k := 5) (by decide +kernel : decode k_R_shorted.2.1 3 = .ok (.iload 5, 2)) rfl) ?_
  obtain ⟨r1, m2, hr1, h⟩ := bn_some h
  have q3 := R_isWeek_run hL hr1
  have c4 := (RC_0 hL).1
  have hL := q3.2
  refine ai (q_callV (pc := 5) (As := [.int x1, .int x2, .int x5]) (st := []) (st2 := [.int r1]) (b := 0) rfl rfl (by decide +kernel : decode k_R_shorted.2.1 5 = .ok (.invokevirtual 622, 3)) lc_12_622 mo_R_isWeek ⟨Nat.le_of_ble_eq_true rfl, Nat.le_of_ble_eq_true rfl⟩ (Nat.le_of_ble_eq_true rfl) (Nat.le_of_ble_eq_true rfl) c4 q3.1) ?_
  rcases ite_some h with ⟨c5, h⟩ | ⟨c5, h⟩
  · refine ai (r_if_eq_t (pc := 8) (tgt := 21) (by decide +kernel : decode k_R_shorted.2.1 8 = .ok (.ifCond .eq (13), 3)) (by decide) c5) ?_
    exact (ai (r_sub [] rfl) (R_shorted_21_run hL h))
  · refine ai (r_if_eq_f (pc := 8) 21 (by decide +kernel : decode k_R_shorted.2.1 8 = .ok (.ifCond .eq (13), 3)) (by decide) c5) ?_
    refine ai (r_iload_n (pc := 11) (k := 3) (by decide +kernel : decode k_R_shorted.2.1 11 = .ok (.iload_n 3, 1)) rfl rfl) ?_
    refine ai (r_iload_n (pc := 12) (k := 2) (by decide +kernel : decode k_R_shorted.2.1 12 = .ok (.iload_n 2, 1)) rfl rfl) ?_
    refine ai (r_bipush (pc := 13) (by decide +kernel : decode k_R_shorted.2.1 13 = .ok (.bipush (19), 2)) (by decide : _ = (19 : Int32))) ?_
    obtain ⟨r6, hr6, h⟩ := bp_some h
    refine ai (q_callS (pc := 15) (As := [.int x3, .int x2, .int 19]) (st := []) (st2 := [.int r6]) rfl rfl (by decide +kernel : decode k_R_shorted.2.1 15 = .ok (.invokestatic 433, 3)) lc_12_433 mo_R_in ⟨Nat.le_of_ble_eq_true rfl, Nat.le_of_ble_eq_true rfl⟩ (Nat.le_of_ble_eq_true rfl) (Nat.le_of_ble_eq_true rfl) (R_in_run hr6)) ?_
    rcases ite_some h with ⟨c7, h⟩ | ⟨c7, h⟩
    · refine ai (r_if_ne_f (pc := 18) 25 (by decide +kernel : decode k_R_shorted.2.1 18 = .ok (.ifCond .ne (7), 3)) (by decide) c7) ?_
      exact (ai (r_sub [] rfl) (R_shorted_21_run hL h))
    · refine ai (r_if_ne_t (pc := 18) (tgt := 25) (by decide +kernel : decode k_R_shorted.2.1 18 = .ok (.ifCond .ne (7), 3)) (by decide) c7) ?_
      refine ai (r_lconst (pc := 25) (x := 0) (by decide +kernel : decode k_R_shorted.2.1 25 = .ok (.lconst 0, 1)) (by decide)) ?_
      refine ai (e_lstore (pc := 26) rfl (by decide +kernel : decode k_R_shorted.2.1 26 = .ok (.lstore 6, 2)) (by decide) rfl) ?_
      refine ai (r_iload_n (pc := 28) (k := 3) (by decide +kernel : decode k_R_shorted.2.1 28 = .ok (.iload_n 2, 1)) rfl rfl) ?_
      refine ai (e_istore (pc := 29) rfl (by decide +kernel : decode k_R_shorted.2.1 29 = .ok (.istore 8, 2)) (by decide) rfl) ?_
      exact (ai (r_sub [2, 3, 5, 6, 7, 1, 0] rfl) (R_shorted_31_run hL h))
set_option maxRecDepth 100000 in
set_option maxHeartbeats 4000000 in
theorem R_tried_97_run {m m' : Mem} {r : Int64} (hL : RL m) (h : R_tried_97 m = some (r, m')) : Run k_R_tried 97 [] [] m (some (.long r)) m' ∧ RL m' := by
  unfold R_tried_97 at h
  refine ai (r_ldc2_w (pc := 97) (by decide +kernel : decode k_R_tried.2.1 97 = .ok (.ldc2_w 632, 3)) lk_12_632) ?_
  cases h
  exact ⟨r_lret rfl (by decide +kernel : decode k_R_tried.2.1 100 = .ok (.lreturn, 1)), hL⟩
set_option maxRecDepth 100000 in
set_option maxHeartbeats 4000000 in
theorem R_tried_168_run {k132 : Int32 → Int32 → Int32 → Int32 → Int64 → Int32 → Mem → Option (Int64 × Mem)} {k145 : Int32 → Int32 → Int32 → Int32 → Int64 → Int32 → Int32 → Mem → Option (Int64 × Mem)} {x1 : Int32} {x5 : Int32} {x6 : Int32} {x7 : Int32} {x8 : Int64} {x10 : Int32} {x11 : Int32} {m m' : Mem} {r : Int64} (hk132 : ∀ (x1 : Int32) (x5 : Int32) (x6 : Int32) (x7 : Int32) (x8 : Int64) (x10 : Int32) (m : Mem) (r : Int64) (m' : Mem), RL m → k132 x1 x5 x6 x7 x8 x10 m = some (r, m') → Run k_R_tried 132 [(0, .ref 0), (1, .int x1), (5, .int x5), (6, .int x6), (7, .int x7), (8, .long x8), (10, .int x10)] [] m (some (.long r)) m' ∧ RL m') (hk145 : ∀ (x1 : Int32) (x5 : Int32) (x6 : Int32) (x7 : Int32) (x8 : Int64) (x10 : Int32) (x11 : Int32) (m : Mem) (r : Int64) (m' : Mem), RL m → k145 x1 x5 x6 x7 x8 x10 x11 m = some (r, m') → Run k_R_tried 145 [(0, .ref 0), (1, .int x1), (5, .int x5), (6, .int x6), (7, .int x7), (8, .long x8), (10, .int x10), (11, .int x11)] [] m (some (.long r)) m' ∧ RL m') (hL : RL m) (h : R_tried_168 k132 k145 x1 x5 x6 x7 x8 x10 x11 m = some (r, m')) : Run k_R_tried 168 [(0, .ref 0), (1, .int x1), (5, .int x5), (6, .int x6), (7, .int x7), (8, .long x8), (10, .int x10), (11, .int x11)] [] m (some (.long r)) m' ∧ RL m' := by
  unfold R_tried_168 at h
  refine ai (r_lload (pc := 168) (k := 5) (by decide +kernel : decode k_R_tried.2.1 168 = .ok (.lload 8, 2)) rfl) ?_
  refine ai (p_aload_n (pc := 170) (k := 0) (by decide +kernel : decode k_R_tried.2.1 170 = .ok (.aload_n 0, 1)) rfl rfl) ?_
  refine ai (r_iload (pc := 171) (k := 6) (by decide +kernel : decode k_R_tried.2.1 171 = .ok (.iload 10, 2)) rfl) ?_
  refine ai (r_iload (pc := 173) (k := 7) (by decide +kernel : decode k_R_tried.2.1 173 = .ok (.iload 11, 2)) rfl) ?_
  refine ai (r_iload (pc := 175) (k := 4) (by decide +kernel : decode k_R_tried.2.1 175 = .ok (.iload 7, 2)) rfl) ?_
  obtain ⟨r1, m2, hr1, h⟩ := bn_some h
  have q3 := R_payOf_run hL hr1
  have c4 := (RC_0 hL).1
  have hL := q3.2
  refine ai (q_callV (pc := 177) (As := [.int x10, .int x11, .int x7]) (st := [.long x8]) (st2 := [.long r1, .long x8]) (b := 0) rfl rfl (by decide +kernel : decode k_R_tried.2.1 177 = .ok (.invokevirtual 625, 3)) lc_12_625 mo_R_payOf ⟨Nat.le_of_ble_eq_true rfl, Nat.le_of_ble_eq_true rfl⟩ (Nat.le_of_ble_eq_true rfl) (Nat.le_of_ble_eq_true rfl) c4 q3.1) ?_
  refine ai (r_ladd (pc := 180) (by decide +kernel : decode k_R_tried.2.1 180 = .ok (.ladd, 1))) ?_
  obtain ⟨v5, hv5, h⟩ := vb_some h
  refine ai (e_lstore (pc := 181) hv5 (by decide +kernel : decode k_R_tried.2.1 181 = .ok (.lstore 8, 2)) (by decide) rfl) ?_
  obtain ⟨v6, hv6, h⟩ := vb_some h
  refine ai (e_iinc (pc := 183) (k := 7) hv6 ic_1 (by decide +kernel : decode k_R_tried.2.1 183 = .ok (.iinc 11 (1), 3)) rfl (by decide) rfl) ?_
  refine ai (r_goto (pc := 186) (tgt := 145) (by decide +kernel : decode k_R_tried.2.1 186 = .ok (.goto (-41), 3)) (by decide)) ?_
  exact (ai (r_sub [2, 3, 4, 5, 6, 1, 7, 0] rfl) (hk145 x1 x5 x6 x7 v5 x10 v6 m2 _ _ hL h))
set_option maxRecDepth 100000 in
set_option maxHeartbeats 4000000 in
theorem R_tried_189_run {k132 : Int32 → Int32 → Int32 → Int32 → Int64 → Int32 → Mem → Option (Int64 × Mem)} {x1 : Int32} {x5 : Int32} {x6 : Int32} {x7 : Int32} {x8 : Int64} {x10 : Int32} {m m' : Mem} {r : Int64} (hk132 : ∀ (x1 : Int32) (x5 : Int32) (x6 : Int32) (x7 : Int32) (x8 : Int64) (x10 : Int32) (m : Mem) (r : Int64) (m' : Mem), RL m → k132 x1 x5 x6 x7 x8 x10 m = some (r, m') → Run k_R_tried 132 [(0, .ref 0), (1, .int x1), (5, .int x5), (6, .int x6), (7, .int x7), (8, .long x8), (10, .int x10)] [] m (some (.long r)) m' ∧ RL m') (hL : RL m) (h : R_tried_189 k132 x1 x5 x6 x7 x8 x10 m = some (r, m')) : Run k_R_tried 189 [(0, .ref 0), (1, .int x1), (5, .int x5), (6, .int x6), (7, .int x7), (8, .long x8), (10, .int x10)] [] m (some (.long r)) m' ∧ RL m' := by
  unfold R_tried_189 at h
  obtain ⟨v1, hv1, h⟩ := vb_some h
  refine ai (e_iinc (pc := 189) (k := 6) hv1 ic_1 (by decide +kernel : decode k_R_tried.2.1 189 = .ok (.iinc 10 (1), 3)) rfl (by decide) rfl) ?_
  refine ai (r_goto (pc := 192) (tgt := 132) (by decide +kernel : decode k_R_tried.2.1 192 = .ok (.goto (-60), 3)) (by decide)) ?_
  exact (ai (r_sub [1, 2, 3, 4, 5, 6, 0] rfl) (hk132 x1 x5 x6 x7 x8 v1 m _ _ hL h))
set_option maxRecDepth 100000 in
set_option maxHeartbeats 4000000 in
theorem R_tried_145_run {k132 : Int32 → Int32 → Int32 → Int32 → Int64 → Int32 → Mem → Option (Int64 × Mem)} {n : Nat} {x1 : Int32} {x5 : Int32} {x6 : Int32} {x7 : Int32} {x8 : Int64} {x10 : Int32} {x11 : Int32} {m m' : Mem} {r : Int64} (hk132 : ∀ (x1 : Int32) (x5 : Int32) (x6 : Int32) (x7 : Int32) (x8 : Int64) (x10 : Int32) (m : Mem) (r : Int64) (m' : Mem), RL m → k132 x1 x5 x6 x7 x8 x10 m = some (r, m') → Run k_R_tried 132 [(0, .ref 0), (1, .int x1), (5, .int x5), (6, .int x6), (7, .int x7), (8, .long x8), (10, .int x10)] [] m (some (.long r)) m' ∧ RL m') (hL : RL m) (h : R_tried_145 k132 n x1 x5 x6 x7 x8 x10 x11 m = some (r, m')) : Run k_R_tried 145 [(0, .ref 0), (1, .int x1), (5, .int x5), (6, .int x6), (7, .int x7), (8, .long x8), (10, .int x10), (11, .int x11)] [] m (some (.long r)) m' ∧ RL m' := by
  induction n generalizing x1 x5 x6 x7 x8 x10 x11 m r m' with
  | zero => exact absurd h (by simp [R_tried_145])
  | succ n ih =>
    rw [R_tried_145.eq_2] at h
    refine ai (r_iload (pc := 145) (k := 7) (by decide +kernel : decode k_R_tried.2.1 145 = .ok (.iload 11, 2)) rfl) ?_
    refine ai (r_iload (pc := 147) (k := 3) (by decide +kernel : decode k_R_tried.2.1 147 = .ok (.iload 6, 2)) rfl) ?_
    rcases ite_some h with ⟨c1, h⟩ | ⟨c1, h⟩
    · refine ai (r_icmp_gt_t (pc := 149) (tgt := 189) (by decide +kernel : decode k_R_tried.2.1 149 = .ok (.if_icmp .gt (40), 3)) (by decide) c1) ?_
      exact (ai (r_sub [0, 1, 2, 3, 4, 5, 6] rfl) (R_tried_189_run hk132 hL h))
    · refine ai (r_icmp_gt_f (pc := 149) 189 (by decide +kernel : decode k_R_tried.2.1 149 = .ok (.if_icmp .gt (40), 3)) (by decide) c1) ?_
      refine ai (r_iload_n (pc := 152) (k := 1) (by decide +kernel : decode k_R_tried.2.1 152 = .ok (.iload_n 1, 1)) rfl rfl) ?_
      refine ai (r_iconst (pc := 153) (by decide +kernel : decode k_R_tried.2.1 153 = .ok (.iconst (-1), 1)) ic_m1) ?_
      rcases ite_some h with ⟨c2, h⟩ | ⟨c2, h⟩
      · refine ai (r_icmp_eq_t (pc := 154) (tgt := 168) (by decide +kernel : decode k_R_tried.2.1 154 = .ok (.if_icmp .eq (14), 3)) (by decide) c2) ?_
        exact (R_tried_168_run hk132 (fun _ _ _ _ _ _ _ _ _ _ q1 q3 => ih q1 q3) hL h)
      · refine ai (r_icmp_eq_f (pc := 154) 168 (by decide +kernel : decode k_R_tried.2.1 154 = .ok (.if_icmp .eq (14), 3)) (by decide) c2) ?_
        refine ai (p_aload_n (pc := 157) (k := 0) (by decide +kernel : decode k_R_tried.2.1 157 = .ok (.aload_n 0, 1)) rfl rfl) ?_
        refine ai (p_getr (pc := 158) (RR_1596_0 hL) (by decide +kernel : decode k_R_tried.2.1 158 = .ok (.getfield 134, 3)) lg_12_134 (RC_0 hL).1) ?_
        refine ai (r_iload (pc := 161) (k := 6) (by decide +kernel : decode k_R_tried.2.1 161 = .ok (.iload 10, 2)) rfl) ?_
        obtain ⟨g3, h⟩ := gd_some h
        refine ai (p_iald (pc := 163) (by decide +kernel : decode k_R_tried.2.1 163 = .ok (.iaload, 1)) (RC_39 hL).1 (RC_39 hL).2 g3) ?_
        refine ai (r_iload_n (pc := 164) (k := 1) (by decide +kernel : decode k_R_tried.2.1 164 = .ok (.iload_n 1, 1)) rfl rfl) ?_
        rcases ite_some h with ⟨c4, h⟩ | ⟨c4, h⟩
        · refine ai (r_icmp_ne_f (pc := 165) 189 (by decide +kernel : decode k_R_tried.2.1 165 = .ok (.if_icmp .ne (24), 3)) (by decide) c4) ?_
          exact (R_tried_168_run hk132 (fun _ _ _ _ _ _ _ _ _ _ q1 q3 => ih q1 q3) hL h)
        · refine ai (r_icmp_ne_t (pc := 165) (tgt := 189) (by decide +kernel : decode k_R_tried.2.1 165 = .ok (.if_icmp .ne (24), 3)) (by decide) c4) ?_
          exact (ai (r_sub [0, 1, 2, 3, 4, 5, 6] rfl) (R_tried_189_run hk132 hL h))
set_option maxRecDepth 100000 in
set_option maxHeartbeats 4000000 in
theorem R_tried_195_run {x8 : Int64} {m m' : Mem} {r : Int64} (hL : RL m) (h : R_tried_195 x8 m = some (r, m')) : Run k_R_tried 195 [(0, .ref 0), (8, .long x8)] [] m (some (.long r)) m' ∧ RL m' := by
  unfold R_tried_195 at h
  refine ai (p_aload_n (pc := 195) (k := 0) (by decide +kernel : decode k_R_tried.2.1 195 = .ok (.aload_n 0, 1)) rfl rfl) ?_
  refine ai (r_iconst (pc := 196) (by decide +kernel : decode k_R_tried.2.1 196 = .ok (.iconst (-1), 1)) ic_m1) ?_
  have c1 := (RC_0 hL).1
  obtain ⟨m2, hm2, h⟩ := vb_some h
  have hL : RL m2 := by rw [hm2]; exact hL
  refine ai (p_putI (pc := 197) hm2 (by decide +kernel : decode k_R_tried.2.1 197 = .ok (.putfield 197, 3)) lp_12_197 c1) ?_
  refine ai (p_aload_n (pc := 200) (k := 0) (by decide +kernel : decode k_R_tried.2.1 200 = .ok (.aload_n 0, 1)) rfl rfl) ?_
  obtain ⟨r3, m4, hr3, h⟩ := bn_some h
  have q5 := R_changed_run hL hr3
  have c6 := (RC_0 hL).1
  have hL := q5.2
  refine ai (q_callV (pc := 201) (As := []) (st := []) (st2 := []) (b := 0) rfl rfl (by decide +kernel : decode k_R_tried.2.1 201 = .ok (.invokevirtual 437, 3)) lc_12_437 mo_R_changed ⟨Nat.le_of_ble_eq_true rfl, Nat.le_of_ble_eq_true rfl⟩ (Nat.le_of_ble_eq_true rfl) (Nat.le_of_ble_eq_true rfl) c6 q5.1) ?_
  refine ai (r_lload (pc := 204) (k := 1) (by decide +kernel : decode k_R_tried.2.1 204 = .ok (.lload 8, 2)) rfl) ?_
  cases h
  exact ⟨r_lret rfl (by decide +kernel : decode k_R_tried.2.1 206 = .ok (.lreturn, 1)), hL⟩
set_option maxRecDepth 100000 in
set_option maxHeartbeats 4000000 in
theorem R_tried_132_run {n : Nat} {x1 : Int32} {x5 : Int32} {x6 : Int32} {x7 : Int32} {x8 : Int64} {x10 : Int32} {m m' : Mem} {r : Int64} (hL : RL m) (h : R_tried_132 n x1 x5 x6 x7 x8 x10 m = some (r, m')) : Run k_R_tried 132 [(0, .ref 0), (1, .int x1), (5, .int x5), (6, .int x6), (7, .int x7), (8, .long x8), (10, .int x10)] [] m (some (.long r)) m' ∧ RL m' := by
  induction n generalizing x1 x5 x6 x7 x8 x10 m r m' with
  | zero => exact absurd h (by simp [R_tried_132])
  | succ n ih =>
    rw [R_tried_132.eq_2] at h
    refine ai (r_iload (pc := 132) (k := 6) (by decide +kernel : decode k_R_tried.2.1 132 = .ok (.iload 10, 2)) rfl) ?_
    refine ai (p_aload_n (pc := 134) (k := 0) (by decide +kernel : decode k_R_tried.2.1 134 = .ok (.aload_n 0, 1)) rfl rfl) ?_
    refine ai (r_getI (pc := 135) (by decide +kernel : decode k_R_tried.2.1 135 = .ok (.getfield 427, 3)) lg_12_427 (by decide) (RC_0 hL).1) ?_
    rcases ite_some h with ⟨c1, h⟩ | ⟨c1, h⟩
    · refine ai (r_icmp_ge_t (pc := 138) (tgt := 195) (by decide +kernel : decode k_R_tried.2.1 138 = .ok (.if_icmp .ge (57), 3)) (by decide) c1) ?_
      exact (ai (r_sub [0, 5] rfl) (R_tried_195_run hL h))
    · refine ai (r_icmp_ge_f (pc := 138) 195 (by decide +kernel : decode k_R_tried.2.1 138 = .ok (.if_icmp .ge (57), 3)) (by decide) c1) ?_
      refine ai (r_iload (pc := 141) (k := 2) (by decide +kernel : decode k_R_tried.2.1 141 = .ok (.iload 5, 2)) rfl) ?_
      refine ai (e_istore (pc := 143) rfl (by decide +kernel : decode k_R_tried.2.1 143 = .ok (.istore 11, 2)) (by decide) rfl) ?_
      exact (ai (r_sub [1, 2, 3, 4, 5, 6, 7, 0] rfl) (R_tried_145_run (fun _ _ _ _ _ _ _ _ _ q1 q3 => ih q1 q3) hL h))
set_option maxRecDepth 100000 in
set_option maxHeartbeats 4000000 in
theorem R_tried_13_run {x1 : Int32} {x2 : Int32} {x3 : Int32} {x4 : Int32} {x5 : Int32} {x6 : Int32} {x7 : Int32} {m m' : Mem} {r : Int64} (hL : RL m) (h : R_tried_13 x1 x2 x3 x4 x5 x6 x7 m = some (r, m')) : Run k_R_tried 13 [(0, .ref 0), (1, .int x1), (2, .int x2), (3, .int x3), (4, .int x4), (5, .int x5), (6, .int x6), (7, .int x7)] [] m (some (.long r)) m' ∧ RL m' := by
  unfold R_tried_13 at h
  refine ai (p_aload_n (pc := 13) (k := 0) (by decide +kernel : decode k_R_tried.2.1 13 = .ok (.aload_n 0, 1)) rfl rfl) ?_
  refine ai (r_iload_n (pc := 14) (k := 2) (by decide +kernel : decode k_R_tried.2.1 14 = .ok (.iload_n 2, 1)) rfl rfl) ?_
  obtain ⟨r1, m2, hr1, h⟩ := bn_some h
  have q3 := R_textAt_run hL hr1
  have c4 := (RC_0 hL).1
  have hL := q3.2
  refine ai (q_callV (pc := 15) (As := [.int x2]) (st := []) (st2 := [.int r1]) (b := 0) rfl rfl (by decide +kernel : decode k_R_tried.2.1 15 = .ok (.invokevirtual 446, 3)) lc_12_446 mo_R_textAt ⟨Nat.le_of_ble_eq_true rfl, Nat.le_of_ble_eq_true rfl⟩ (Nat.le_of_ble_eq_true rfl) (Nat.le_of_ble_eq_true rfl) c4 q3.1) ?_
  refine ai (r_iconst (pc := 18) (by decide +kernel : decode k_R_tried.2.1 18 = .ok (.iconst (-1), 1)) ic_m1) ?_
  rcases ite_some h with ⟨c5, h⟩ | ⟨c5, h⟩
  · refine ai (r_icmp_eq_t (pc := 19) (tgt := 97) (by decide +kernel : decode k_R_tried.2.1 19 = .ok (.if_icmp .eq (78), 3)) (by decide) c5) ?_
    exact (ai (r_sub [] rfl) (R_tried_97_run hL h))
  · refine ai (r_icmp_eq_f (pc := 19) 97 (by decide +kernel : decode k_R_tried.2.1 19 = .ok (.if_icmp .eq (78), 3)) (by decide) c5) ?_
    refine ai (p_aload_n (pc := 22) (k := 0) (by decide +kernel : decode k_R_tried.2.1 22 = .ok (.aload_n 0, 1)) rfl rfl) ?_
    refine ai (p_getr (pc := 23) (RR_1602_0 hL) (by decide +kernel : decode k_R_tried.2.1 23 = .ok (.getfield 149, 3)) lg_12_149 (RC_0 hL).1) ?_
    refine ai (r_iload_n (pc := 26) (k := 2) (by decide +kernel : decode k_R_tried.2.1 26 = .ok (.iload_n 2, 1)) rfl rfl) ?_
    obtain ⟨g6, h⟩ := gd_some h
    refine ai (p_iald (pc := 27) (by decide +kernel : decode k_R_tried.2.1 27 = .ok (.iaload, 1)) (RC_44 hL).1 (RC_44 hL).2 g6) ?_
    rcases ite_some h with ⟨c7, h⟩ | ⟨c7, h⟩
    · refine ai (r_if_ne_f (pc := 28) 97 (by decide +kernel : decode k_R_tried.2.1 28 = .ok (.ifCond .ne (69), 3)) (by decide) c7) ?_
      refine ai (r_iload_n (pc := 31) (k := 2) (by decide +kernel : decode k_R_tried.2.1 31 = .ok (.iload_n 2, 1)) rfl rfl) ?_
      refine ai (r_iload (pc := 32) (k := 7) (by decide +kernel : decode k_R_tried.2.1 32 = .ok (.iload 7, 2)) rfl) ?_
      rcases ite_some h with ⟨c8, h⟩ | ⟨c8, h⟩
      · refine ai (r_icmp_ge_t (pc := 34) (tgt := 97) (by decide +kernel : decode k_R_tried.2.1 34 = .ok (.if_icmp .ge (63), 3)) (by decide) c8) ?_
        exact (ai (r_sub [] rfl) (R_tried_97_run hL h))
      · refine ai (r_icmp_ge_f (pc := 34) 97 (by decide +kernel : decode k_R_tried.2.1 34 = .ok (.if_icmp .ge (63), 3)) (by decide) c8) ?_
        refine ai (r_iload_n (pc := 37) (k := 3) (by decide +kernel : decode k_R_tried.2.1 37 = .ok (.iload_n 3, 1)) rfl rfl) ?_
        refine ai (r_iconst (pc := 38) (by decide +kernel : decode k_R_tried.2.1 38 = .ok (.iconst 0, 1)) ic_0) ?_
        refine ai (p_aload_n (pc := 39) (k := 0) (by decide +kernel : decode k_R_tried.2.1 39 = .ok (.aload_n 0, 1)) rfl rfl) ?_
        refine ai (r_getI (pc := 40) (by decide +kernel : decode k_R_tried.2.1 40 = .ok (.getfield 359, 3)) lg_12_359 (by decide) (RC_0 hL).1) ?_
        refine ai (r_iconst (pc := 43) (by decide +kernel : decode k_R_tried.2.1 43 = .ok (.iconst 1, 1)) ic_1) ?_
        refine ai (r_isub (pc := 44) (by decide +kernel : decode k_R_tried.2.1 44 = .ok (.isub, 1))) ?_
        obtain ⟨r9, hr9, h⟩ := bp_some h
        refine ai (q_callS (pc := 45) (As := [.int x3, .int 0, .int ((mI m2 1584 0) - 1)]) (st := []) (st2 := [.int r9]) rfl rfl (by decide +kernel : decode k_R_tried.2.1 45 = .ok (.invokestatic 433, 3)) lc_12_433 mo_R_in ⟨Nat.le_of_ble_eq_true rfl, Nat.le_of_ble_eq_true rfl⟩ (Nat.le_of_ble_eq_true rfl) (Nat.le_of_ble_eq_true rfl) (R_in_run hr9)) ?_
        rcases ite_some h with ⟨c10, h⟩ | ⟨c10, h⟩
        · refine ai (r_if_eq_t (pc := 48) (tgt := 97) (by decide +kernel : decode k_R_tried.2.1 48 = .ok (.ifCond .eq (49), 3)) (by decide) c10) ?_
          exact (ai (r_sub [] rfl) (R_tried_97_run hL h))
        · refine ai (r_if_eq_f (pc := 48) 97 (by decide +kernel : decode k_R_tried.2.1 48 = .ok (.ifCond .eq (49), 3)) (by decide) c10) ?_
          refine ai (r_iload (pc := 51) (k := 4) (by decide +kernel : decode k_R_tried.2.1 51 = .ok (.iload 4, 2)) rfl) ?_
          refine ai (r_sipush (pc := 53) (by decide +kernel : decode k_R_tried.2.1 53 = .ok (.sipush (-9999), 3)) (by decide : _ = (-9999 : Int32))) ?_
          refine ai (r_sipush (pc := 56) (by decide +kernel : decode k_R_tried.2.1 56 = .ok (.sipush (9999), 3)) (by decide : _ = (9999 : Int32))) ?_
          obtain ⟨r11, hr11, h⟩ := bp_some h
          refine ai (q_callS (pc := 59) (As := [.int x4, .int (-9999), .int 9999]) (st := []) (st2 := [.int r11]) rfl rfl (by decide +kernel : decode k_R_tried.2.1 59 = .ok (.invokestatic 433, 3)) lc_12_433 mo_R_in ⟨Nat.le_of_ble_eq_true rfl, Nat.le_of_ble_eq_true rfl⟩ (Nat.le_of_ble_eq_true rfl) (Nat.le_of_ble_eq_true rfl) (R_in_run hr11)) ?_
          rcases ite_some h with ⟨c12, h⟩ | ⟨c12, h⟩
          · refine ai (r_if_eq_t (pc := 62) (tgt := 97) (by decide +kernel : decode k_R_tried.2.1 62 = .ok (.ifCond .eq (35), 3)) (by decide) c12) ?_
            exact (ai (r_sub [] rfl) (R_tried_97_run hL h))
          · refine ai (r_if_eq_f (pc := 62) 97 (by decide +kernel : decode k_R_tried.2.1 62 = .ok (.ifCond .eq (35), 3)) (by decide) c12) ?_
            refine ai (r_iload (pc := 65) (k := 5) (by decide +kernel : decode k_R_tried.2.1 65 = .ok (.iload 5, 2)) rfl) ?_
            refine ai (r_iconst (pc := 67) (by decide +kernel : decode k_R_tried.2.1 67 = .ok (.iconst 0, 1)) ic_0) ?_
            refine ai (r_bipush (pc := 68) (by decide +kernel : decode k_R_tried.2.1 68 = .ok (.bipush (19), 2)) (by decide : _ = (19 : Int32))) ?_
            obtain ⟨r13, hr13, h⟩ := bp_some h
            refine ai (q_callS (pc := 70) (As := [.int x5, .int 0, .int 19]) (st := []) (st2 := [.int r13]) rfl rfl (by decide +kernel : decode k_R_tried.2.1 70 = .ok (.invokestatic 433, 3)) lc_12_433 mo_R_in ⟨Nat.le_of_ble_eq_true rfl, Nat.le_of_ble_eq_true rfl⟩ (Nat.le_of_ble_eq_true rfl) (Nat.le_of_ble_eq_true rfl) (R_in_run hr13)) ?_
            rcases ite_some h with ⟨c14, h⟩ | ⟨c14, h⟩
            · refine ai (r_if_eq_t (pc := 73) (tgt := 97) (by decide +kernel : decode k_R_tried.2.1 73 = .ok (.ifCond .eq (24), 3)) (by decide) c14) ?_
              exact (ai (r_sub [] rfl) (R_tried_97_run hL h))
            · refine ai (r_if_eq_f (pc := 73) 97 (by decide +kernel : decode k_R_tried.2.1 73 = .ok (.ifCond .eq (24), 3)) (by decide) c14) ?_
              refine ai (r_iload (pc := 76) (k := 6) (by decide +kernel : decode k_R_tried.2.1 76 = .ok (.iload 6, 2)) rfl) ?_
              refine ai (r_iload (pc := 78) (k := 5) (by decide +kernel : decode k_R_tried.2.1 78 = .ok (.iload 5, 2)) rfl) ?_
              refine ai (r_bipush (pc := 80) (by decide +kernel : decode k_R_tried.2.1 80 = .ok (.bipush (19), 2)) (by decide : _ = (19 : Int32))) ?_
              obtain ⟨r15, hr15, h⟩ := bp_some h
              refine ai (q_callS (pc := 82) (As := [.int x6, .int x5, .int 19]) (st := []) (st2 := [.int r15]) rfl rfl (by decide +kernel : decode k_R_tried.2.1 82 = .ok (.invokestatic 433, 3)) lc_12_433 mo_R_in ⟨Nat.le_of_ble_eq_true rfl, Nat.le_of_ble_eq_true rfl⟩ (Nat.le_of_ble_eq_true rfl) (Nat.le_of_ble_eq_true rfl) (R_in_run hr15)) ?_
              rcases ite_some h with ⟨c16, h⟩ | ⟨c16, h⟩
              · refine ai (r_if_eq_t (pc := 85) (tgt := 97) (by decide +kernel : decode k_R_tried.2.1 85 = .ok (.ifCond .eq (12), 3)) (by decide) c16) ?_
                exact (ai (r_sub [] rfl) (R_tried_97_run hL h))
              · refine ai (r_if_eq_f (pc := 85) 97 (by decide +kernel : decode k_R_tried.2.1 85 = .ok (.ifCond .eq (12), 3)) (by decide) c16) ?_
                refine ai (p_aload_n (pc := 88) (k := 0) (by decide +kernel : decode k_R_tried.2.1 88 = .ok (.aload_n 0, 1)) rfl rfl) ?_
                refine ai (r_iload (pc := 89) (k := 7) (by decide +kernel : decode k_R_tried.2.1 89 = .ok (.iload 7, 2)) rfl) ?_
                obtain ⟨r17, m18, hr17, h⟩ := bn_some h
                have q19 := R_isKnown_run hL hr17
                have c20 := (RC_0 hL).1
                have hL := q19.2
                refine ai (q_callV (pc := 91) (As := [.int x7]) (st := []) (st2 := [.int r17]) (b := 0) rfl rfl (by decide +kernel : decode k_R_tried.2.1 91 = .ok (.invokevirtual 455, 3)) lc_12_455 mo_R_isKnown ⟨Nat.le_of_ble_eq_true rfl, Nat.le_of_ble_eq_true rfl⟩ (Nat.le_of_ble_eq_true rfl) (Nat.le_of_ble_eq_true rfl) c20 q19.1) ?_
                rcases ite_some h with ⟨c21, h⟩ | ⟨c21, h⟩
                · refine ai (r_if_ne_f (pc := 94) 101 (by decide +kernel : decode k_R_tried.2.1 94 = .ok (.ifCond .ne (7), 3)) (by decide) c21) ?_
                  exact (ai (r_sub [] rfl) (R_tried_97_run hL h))
                · refine ai (r_if_ne_t (pc := 94) (tgt := 101) (by decide +kernel : decode k_R_tried.2.1 94 = .ok (.ifCond .ne (7), 3)) (by decide) c21) ?_
                  refine ai (p_aload_n (pc := 101) (k := 0) (by decide +kernel : decode k_R_tried.2.1 101 = .ok (.aload_n 0, 1)) rfl rfl) ?_
                  refine ai (p_aload_n (pc := 102) (k := 0) (by decide +kernel : decode k_R_tried.2.1 102 = .ok (.aload_n 0, 1)) rfl rfl) ?_
                  refine ai (p_getr (pc := 103) (RR_1603_0 hL) (by decide +kernel : decode k_R_tried.2.1 103 = .ok (.getfield 152, 3)) lg_12_152 (RC_0 hL).1) ?_
                  refine ai (r_iload_n (pc := 106) (k := 2) (by decide +kernel : decode k_R_tried.2.1 106 = .ok (.iload_n 2, 1)) rfl rfl) ?_
                  obtain ⟨g22, h⟩ := gd_some h
                  refine ai (p_iald (pc := 107) (by decide +kernel : decode k_R_tried.2.1 107 = .ok (.iaload, 1)) (RC_45 hL).1 (RC_45 hL).2 g22) ?_
                  have c23 := (RC_0 hL).1
                  obtain ⟨m24, hm24, h⟩ := vb_some h
                  have hL : RL m24 := by rw [hm24]; exact hL
                  refine ai (p_putI (pc := 108) hm24 (by decide +kernel : decode k_R_tried.2.1 108 = .ok (.putfield 197, 3)) lp_12_197 c23) ?_
                  refine ai (p_aload_n (pc := 111) (k := 0) (by decide +kernel : decode k_R_tried.2.1 111 = .ok (.aload_n 0, 1)) rfl rfl) ?_
                  refine ai (r_iload_n (pc := 112) (k := 3) (by decide +kernel : decode k_R_tried.2.1 112 = .ok (.iload_n 3, 1)) rfl rfl) ?_
                  have c25 := (RC_0 hL).1
                  obtain ⟨m26, hm26, h⟩ := vb_some h
                  have hL : RL m26 := by rw [hm26]; exact hL
                  refine ai (p_putI (pc := 113) hm26 (by decide +kernel : decode k_R_tried.2.1 113 = .ok (.putfield 509, 3)) lp_12_509 c25) ?_
                  refine ai (p_aload_n (pc := 116) (k := 0) (by decide +kernel : decode k_R_tried.2.1 116 = .ok (.aload_n 0, 1)) rfl rfl) ?_
                  refine ai (r_iload (pc := 117) (k := 4) (by decide +kernel : decode k_R_tried.2.1 117 = .ok (.iload 4, 2)) rfl) ?_
                  have c27 := (RC_0 hL).1
                  obtain ⟨m28, hm28, h⟩ := vb_some h
                  have hL : RL m28 := by rw [hm28]; exact hL
                  refine ai (p_putI (pc := 119) hm28 (by decide +kernel : decode k_R_tried.2.1 119 = .ok (.putfield 512, 3)) lp_12_512 c27) ?_
                  refine ai (p_aload_n (pc := 122) (k := 0) (by decide +kernel : decode k_R_tried.2.1 122 = .ok (.aload_n 0, 1)) rfl rfl) ?_
                  obtain ⟨r29, m30, hr29, h⟩ := bn_some h
                  have q31 := R_changed_run hL hr29
                  have c32 := (RC_0 hL).1
                  have hL := q31.2
                  refine ai (q_callV (pc := 123) (As := []) (st := []) (st2 := []) (b := 0) rfl rfl (by decide +kernel : decode k_R_tried.2.1 123 = .ok (.invokevirtual 437, 3)) lc_12_437 mo_R_changed ⟨Nat.le_of_ble_eq_true rfl, Nat.le_of_ble_eq_true rfl⟩ (Nat.le_of_ble_eq_true rfl) (Nat.le_of_ble_eq_true rfl) c32 q31.1) ?_
                  refine ai (r_lconst (pc := 126) (x := 0) (by decide +kernel : decode k_R_tried.2.1 126 = .ok (.lconst 0, 1)) (by decide)) ?_
                  refine ai (e_lstore (pc := 127) rfl (by decide +kernel : decode k_R_tried.2.1 127 = .ok (.lstore 8, 2)) (by decide) rfl) ?_
                  refine ai (r_iconst (pc := 129) (by decide +kernel : decode k_R_tried.2.1 129 = .ok (.iconst 0, 1)) ic_0) ?_
                  refine ai (e_istore (pc := 130) rfl (by decide +kernel : decode k_R_tried.2.1 130 = .ok (.istore 10, 2)) (by decide) rfl) ?_
                  exact (ai (r_sub [2, 3, 7, 8, 9, 1, 0] rfl) (R_tried_132_run hL h))
    · refine ai (r_if_ne_t (pc := 28) (tgt := 97) (by decide +kernel : decode k_R_tried.2.1 28 = .ok (.ifCond .ne (69), 3)) (by decide) c7) ?_
      exact (ai (r_sub [] rfl) (R_tried_97_run hL h))
set_option maxRecDepth 100000 in
set_option maxHeartbeats 4000000 in
theorem R_tried_run {x1 : Int32} {x2 : Int32} {x3 : Int32} {x4 : Int32} {x5 : Int32} {x6 : Int32} {x7 : Int32} {m m' : Mem} {r : Int64} (hL : RL m) (h : R_tried x1 x2 x3 x4 x5 x6 x7 m = some (r, m')) : Run k_R_tried 0 [(0, .ref 0), (1, .int x1), (2, .int x2), (3, .int x3), (4, .int x4), (5, .int x5), (6, .int x6), (7, .int x7)] [] m (some (.long r)) m' ∧ RL m' := by
  unfold R_tried at h
  refine ai (r_iload_n (pc := 0) (k := 1) (by decide +kernel : decode k_R_tried.2.1 0 = .ok (.iload_n 1, 1)) rfl rfl) ?_
  refine ai (r_iconst (pc := 1) (by decide +kernel : decode k_R_tried.2.1 1 = .ok (.iconst (-1), 1)) ic_m1) ?_
  rcases ite_some h with ⟨c1, h⟩ | ⟨c1, h⟩
  · refine ai (r_icmp_eq_t (pc := 2) (tgt := 13) (by decide +kernel : decode k_R_tried.2.1 2 = .ok (.if_icmp .eq (11), 3)) (by decide) c1) ?_
    exact (R_tried_13_run hL h)
  · refine ai (r_icmp_eq_f (pc := 2) 13 (by decide +kernel : decode k_R_tried.2.1 2 = .ok (.if_icmp .eq (11), 3)) (by decide) c1) ?_
    refine ai (p_aload_n (pc := 5) (k := 0) (by decide +kernel : decode k_R_tried.2.1 5 = .ok (.aload_n 0, 1)) rfl rfl) ?_
    refine ai (r_iload_n (pc := 6) (k := 1) (by decide +kernel : decode k_R_tried.2.1 6 = .ok (.iload_n 1, 1)) rfl rfl) ?_
    obtain ⟨r2, m3, hr2, h⟩ := bn_some h
    have q4 := R_isFirm_run hL hr2
    have c5 := (RC_0 hL).1
    have hL := q4.2
    refine ai (q_callV (pc := 7) (As := [.int x1]) (st := []) (st2 := [.int r2]) (b := 0) rfl rfl (by decide +kernel : decode k_R_tried.2.1 7 = .ok (.invokevirtual 440, 3)) lc_12_440 mo_R_isFirm ⟨Nat.le_of_ble_eq_true rfl, Nat.le_of_ble_eq_true rfl⟩ (Nat.le_of_ble_eq_true rfl) (Nat.le_of_ble_eq_true rfl) c5 q4.1) ?_
    rcases ite_some h with ⟨c6, h⟩ | ⟨c6, h⟩
    · refine ai (r_if_eq_t (pc := 10) (tgt := 97) (by decide +kernel : decode k_R_tried.2.1 10 = .ok (.ifCond .eq (87), 3)) (by decide) c6) ?_
      exact (ai (r_sub [] rfl) (R_tried_97_run hL h))
    · refine ai (r_if_eq_f (pc := 10) 97 (by decide +kernel : decode k_R_tried.2.1 10 = .ok (.ifCond .eq (87), 3)) (by decide) c6) ?_
      exact (R_tried_13_run hL h)
set_option maxRecDepth 100000 in
set_option maxHeartbeats 4000000 in
theorem R_turned_58_run {x3 : Int32} {x4 : Int32} {m m' : Mem} {r : Int32} (hL : RL m) (h : R_turned_58 x3 x4 m = some (r, m')) : Run k_R_turned 58 [(3, .int x3), (4, .int x4)] [] m (some (.int r)) m' ∧ RL m' := by
  unfold R_turned_58 at h
  refine ai (r_bipush (pc := 58) (by decide +kernel : decode k_R_turned.2.1 58 = .ok (.bipush (20), 2)) (by decide : _ = (20 : Int32))) ?_
  refine ai (r_iload_n (pc := 60) (k := 0) (by decide +kernel : decode k_R_turned.2.1 60 = .ok (.iload_n 3, 1)) rfl rfl) ?_
  refine ai (r_imul (pc := 61) (by decide +kernel : decode k_R_turned.2.1 61 = .ok (.imul, 1))) ?_
  refine ai (r_iload (pc := 62) (k := 1) (by decide +kernel : decode k_R_turned.2.1 62 = .ok (.iload 4, 2)) rfl) ?_
  refine ai (r_iadd (pc := 64) (by decide +kernel : decode k_R_turned.2.1 64 = .ok (.iadd, 1))) ?_
  cases h
  exact ⟨r_iret rfl (by decide +kernel : decode k_R_turned.2.1 65 = .ok (.ireturn, 1)), hL⟩
set_option maxRecDepth 100000 in
set_option maxHeartbeats 4000000 in
theorem R_turned_72_run {k20 : Int32 → Int32 → Int32 → Mem → Option (Int32 × Mem)} {x1 : Int32} {x2 : Int32} {x3 : Int32} {m m' : Mem} {r : Int32} (hk20 : ∀ (x1 : Int32) (x2 : Int32) (x3 : Int32) (m : Mem) (r : Int32) (m' : Mem), RL m → k20 x1 x2 x3 m = some (r, m') → Run k_R_turned 20 [(0, .ref 0), (1, .int x1), (2, .int x2), (3, .int x3)] [] m (some (.int r)) m' ∧ RL m') (hL : RL m) (h : R_turned_72 k20 x1 x2 x3 m = some (r, m')) : Run k_R_turned 72 [(0, .ref 0), (1, .int x1), (2, .int x2), (3, .int x3)] [] m (some (.int r)) m' ∧ RL m' := by
  unfold R_turned_72 at h
  obtain ⟨v1, hv1, h⟩ := vb_some h
  refine ai (e_iinc (pc := 72) (k := 3) hv1 ic_1 (by decide +kernel : decode k_R_turned.2.1 72 = .ok (.iinc 3 (1), 3)) rfl (by decide) rfl) ?_
  refine ai (r_goto (pc := 75) (tgt := 20) (by decide +kernel : decode k_R_turned.2.1 75 = .ok (.goto (-55), 3)) (by decide)) ?_
  exact (ai (r_sub [1, 2, 3, 0] rfl) (hk20 x1 x2 v1 m _ _ hL h))
set_option maxRecDepth 100000 in
set_option maxHeartbeats 4000000 in
theorem R_turned_31_run {k20 : Int32 → Int32 → Int32 → Mem → Option (Int32 × Mem)} {n : Nat} {x1 : Int32} {x2 : Int32} {x3 : Int32} {x4 : Int32} {m m' : Mem} {r : Int32} (hk20 : ∀ (x1 : Int32) (x2 : Int32) (x3 : Int32) (m : Mem) (r : Int32) (m' : Mem), RL m → k20 x1 x2 x3 m = some (r, m') → Run k_R_turned 20 [(0, .ref 0), (1, .int x1), (2, .int x2), (3, .int x3)] [] m (some (.int r)) m' ∧ RL m') (hL : RL m) (h : R_turned_31 k20 n x1 x2 x3 x4 m = some (r, m')) : Run k_R_turned 31 [(0, .ref 0), (1, .int x1), (2, .int x2), (3, .int x3), (4, .int x4)] [] m (some (.int r)) m' ∧ RL m' := by
  induction n generalizing x1 x2 x3 x4 m r m' with
  | zero => exact absurd h (by simp [R_turned_31])
  | succ n ih =>
    rw [R_turned_31.eq_2] at h
    refine ai (r_iload (pc := 31) (k := 4) (by decide +kernel : decode k_R_turned.2.1 31 = .ok (.iload 4, 2)) rfl) ?_
    refine ai (r_bipush (pc := 33) (by decide +kernel : decode k_R_turned.2.1 33 = .ok (.bipush (20), 2)) (by decide : _ = (20 : Int32))) ?_
    rcases ite_some h with ⟨c1, h⟩ | ⟨c1, h⟩
    · refine ai (r_icmp_ge_t (pc := 35) (tgt := 72) (by decide +kernel : decode k_R_turned.2.1 35 = .ok (.if_icmp .ge (37), 3)) (by decide) c1) ?_
      exact (ai (r_sub [0, 1, 2, 3] rfl) (R_turned_72_run hk20 hL h))
    · refine ai (r_icmp_ge_f (pc := 35) 72 (by decide +kernel : decode k_R_turned.2.1 35 = .ok (.if_icmp .ge (37), 3)) (by decide) c1) ?_
      refine ai (p_aload_n (pc := 38) (k := 0) (by decide +kernel : decode k_R_turned.2.1 38 = .ok (.aload_n 0, 1)) rfl rfl) ?_
      refine ai (r_iload_n (pc := 39) (k := 3) (by decide +kernel : decode k_R_turned.2.1 39 = .ok (.iload_n 3, 1)) rfl rfl) ?_
      refine ai (r_iload (pc := 40) (k := 4) (by decide +kernel : decode k_R_turned.2.1 40 = .ok (.iload 4, 2)) rfl) ?_
      refine ai (r_iload_n (pc := 42) (k := 1) (by decide +kernel : decode k_R_turned.2.1 42 = .ok (.iload_n 1, 1)) rfl rfl) ?_
      obtain ⟨r2, m3, hr2, h⟩ := bn_some h
      have q4 := R_payOf_run hL hr2
      have c5 := (RC_0 hL).1
      have hL := q4.2
      refine ai (q_callV (pc := 43) (As := [.int x3, .int x4, .int x1]) (st := []) (st2 := [.long r2]) (b := 0) rfl rfl (by decide +kernel : decode k_R_turned.2.1 43 = .ok (.invokevirtual 625, 3)) lc_12_625 mo_R_payOf ⟨Nat.le_of_ble_eq_true rfl, Nat.le_of_ble_eq_true rfl⟩ (Nat.le_of_ble_eq_true rfl) (Nat.le_of_ble_eq_true rfl) c5 q4.1) ?_
      refine ai (p_aload_n (pc := 46) (k := 0) (by decide +kernel : decode k_R_turned.2.1 46 = .ok (.aload_n 0, 1)) rfl rfl) ?_
      refine ai (r_iload_n (pc := 47) (k := 3) (by decide +kernel : decode k_R_turned.2.1 47 = .ok (.iload_n 3, 1)) rfl rfl) ?_
      refine ai (r_iload (pc := 48) (k := 4) (by decide +kernel : decode k_R_turned.2.1 48 = .ok (.iload 4, 2)) rfl) ?_
      refine ai (r_iload_n (pc := 50) (k := 2) (by decide +kernel : decode k_R_turned.2.1 50 = .ok (.iload_n 2, 1)) rfl rfl) ?_
      obtain ⟨r6, m7, hr6, h⟩ := bn_some h
      have q8 := R_payOf_run hL hr6
      have c9 := (RC_0 hL).1
      have hL := q8.2
      refine ai (q_callV (pc := 51) (As := [.int x3, .int x4, .int x2]) (st := [.long r2]) (st2 := [.long r6, .long r2]) (b := 0) rfl rfl (by decide +kernel : decode k_R_turned.2.1 51 = .ok (.invokevirtual 625, 3)) lc_12_625 mo_R_payOf ⟨Nat.le_of_ble_eq_true rfl, Nat.le_of_ble_eq_true rfl⟩ (Nat.le_of_ble_eq_true rfl) (Nat.le_of_ble_eq_true rfl) c9 q8.1) ?_
      refine ai (r_lcmp (pc := 54) (by decide +kernel : decode k_R_turned.2.1 54 = .ok (.lcmp, 1))) ?_
      rcases ite_some h with ⟨c10, h⟩ | ⟨c10, h⟩
      · refine ai (r_if_eq_t (pc := 55) (tgt := 66) (by decide +kernel : decode k_R_turned.2.1 55 = .ok (.ifCond .eq (11), 3)) (by decide) c10) ?_
        obtain ⟨v11, hv11, h⟩ := vb_some h
        refine ai (e_iinc (pc := 66) (k := 4) hv11 ic_1 (by decide +kernel : decode k_R_turned.2.1 66 = .ok (.iinc 4 (1), 3)) rfl (by decide) rfl) ?_
        refine ai (r_goto (pc := 69) (tgt := 31) (by decide +kernel : decode k_R_turned.2.1 69 = .ok (.goto (-38), 3)) (by decide)) ?_
        exact (ai (r_sub [1, 2, 3, 4, 0] rfl) (ih hL h))
      · refine ai (r_if_eq_f (pc := 55) 66 (by decide +kernel : decode k_R_turned.2.1 55 = .ok (.ifCond .eq (11), 3)) (by decide) c10) ?_
        exact (ai (r_sub [3, 4] rfl) (R_turned_58_run hL h))
set_option maxRecDepth 100000 in
set_option maxHeartbeats 4000000 in
theorem R_turned_20_run {n : Nat} {x1 : Int32} {x2 : Int32} {x3 : Int32} {m m' : Mem} {r : Int32} (hL : RL m) (h : R_turned_20 n x1 x2 x3 m = some (r, m')) : Run k_R_turned 20 [(0, .ref 0), (1, .int x1), (2, .int x2), (3, .int x3)] [] m (some (.int r)) m' ∧ RL m' := by
  induction n generalizing x1 x2 x3 m r m' with
  | zero => exact absurd h (by simp [R_turned_20])
  | succ n ih =>
    rw [R_turned_20.eq_2] at h
    refine ai (r_iload_n (pc := 20) (k := 3) (by decide +kernel : decode k_R_turned.2.1 20 = .ok (.iload_n 3, 1)) rfl rfl) ?_
    refine ai (p_aload_n (pc := 21) (k := 0) (by decide +kernel : decode k_R_turned.2.1 21 = .ok (.aload_n 0, 1)) rfl rfl) ?_
    refine ai (r_getI (pc := 22) (by decide +kernel : decode k_R_turned.2.1 22 = .ok (.getfield 427, 3)) lg_12_427 (by decide) (RC_0 hL).1) ?_
    rcases ite_some h with ⟨c1, h⟩ | ⟨c1, h⟩
    · refine ai (r_icmp_ge_t (pc := 25) (tgt := 78) (by decide +kernel : decode k_R_turned.2.1 25 = .ok (.if_icmp .ge (53), 3)) (by decide) c1) ?_
      refine ai (r_iconst (pc := 78) (by decide +kernel : decode k_R_turned.2.1 78 = .ok (.iconst (-1), 1)) ic_m1) ?_
      cases h
      exact ⟨r_iret rfl (by decide +kernel : decode k_R_turned.2.1 79 = .ok (.ireturn, 1)), hL⟩
    · refine ai (r_icmp_ge_f (pc := 25) 78 (by decide +kernel : decode k_R_turned.2.1 25 = .ok (.if_icmp .ge (53), 3)) (by decide) c1) ?_
      refine ai (r_iconst (pc := 28) (by decide +kernel : decode k_R_turned.2.1 28 = .ok (.iconst 0, 1)) ic_0) ?_
      refine ai (e_istore (pc := 29) rfl (by decide +kernel : decode k_R_turned.2.1 29 = .ok (.istore 4, 2)) (by decide) rfl) ?_
      exact (ai (r_sub [1, 2, 3, 4, 0] rfl) (R_turned_31_run (fun _ _ _ _ _ _ q1 q3 => ih q1 q3) hL h))
set_option maxRecDepth 100000 in
set_option maxHeartbeats 4000000 in
theorem R_turned_run {x1 : Int32} {x2 : Int32} {m m' : Mem} {r : Int32} (hL : RL m) (h : R_turned x1 x2 m = some (r, m')) : Run k_R_turned 0 [(0, .ref 0), (1, .int x1), (2, .int x2)] [] m (some (.int r)) m' ∧ RL m' := by
  unfold R_turned at h
  refine ai (p_aload_n (pc := 0) (k := 0) (by decide +kernel : decode k_R_turned.2.1 0 = .ok (.aload_n 0, 1)) rfl rfl) ?_
  refine ai (r_iload_n (pc := 1) (k := 1) (by decide +kernel : decode k_R_turned.2.1 1 = .ok (.iload_n 1, 1)) rfl rfl) ?_
  obtain ⟨r1, m2, hr1, h⟩ := bn_some h
  have q3 := R_isKnown_run hL hr1
  have c4 := (RC_0 hL).1
  have hL := q3.2
  refine ai (q_callV (pc := 2) (As := [.int x1]) (st := []) (st2 := [.int r1]) (b := 0) rfl rfl (by decide +kernel : decode k_R_turned.2.1 2 = .ok (.invokevirtual 455, 3)) lc_12_455 mo_R_isKnown ⟨Nat.le_of_ble_eq_true rfl, Nat.le_of_ble_eq_true rfl⟩ (Nat.le_of_ble_eq_true rfl) (Nat.le_of_ble_eq_true rfl) c4 q3.1) ?_
  rcases ite_some h with ⟨c5, h⟩ | ⟨c5, h⟩
  · refine ai (r_if_eq_t (pc := 5) (tgt := 16) (by decide +kernel : decode k_R_turned.2.1 5 = .ok (.ifCond .eq (11), 3)) (by decide) c5) ?_
    refine ai (r_iconst (pc := 16) (by decide +kernel : decode k_R_turned.2.1 16 = .ok (.iconst (-1), 1)) ic_m1) ?_
    cases h
    exact ⟨r_iret rfl (by decide +kernel : decode k_R_turned.2.1 17 = .ok (.ireturn, 1)), hL⟩
  · refine ai (r_if_eq_f (pc := 5) 16 (by decide +kernel : decode k_R_turned.2.1 5 = .ok (.ifCond .eq (11), 3)) (by decide) c5) ?_
    refine ai (p_aload_n (pc := 8) (k := 0) (by decide +kernel : decode k_R_turned.2.1 8 = .ok (.aload_n 0, 1)) rfl rfl) ?_
    refine ai (r_iload_n (pc := 9) (k := 2) (by decide +kernel : decode k_R_turned.2.1 9 = .ok (.iload_n 2, 1)) rfl rfl) ?_
    obtain ⟨r6, m7, hr6, h⟩ := bn_some h
    have q8 := R_isKnown_run hL hr6
    have c9 := (RC_0 hL).1
    have hL := q8.2
    refine ai (q_callV (pc := 10) (As := [.int x2]) (st := []) (st2 := [.int r6]) (b := 0) rfl rfl (by decide +kernel : decode k_R_turned.2.1 10 = .ok (.invokevirtual 455, 3)) lc_12_455 mo_R_isKnown ⟨Nat.le_of_ble_eq_true rfl, Nat.le_of_ble_eq_true rfl⟩ (Nat.le_of_ble_eq_true rfl) (Nat.le_of_ble_eq_true rfl) c9 q8.1) ?_
    rcases ite_some h with ⟨c10, h⟩ | ⟨c10, h⟩
    · refine ai (r_if_ne_f (pc := 13) 18 (by decide +kernel : decode k_R_turned.2.1 13 = .ok (.ifCond .ne (5), 3)) (by decide) c10) ?_
      refine ai (r_iconst (pc := 16) (by decide +kernel : decode k_R_turned.2.1 16 = .ok (.iconst (-1), 1)) ic_m1) ?_
      cases h
      exact ⟨r_iret rfl (by decide +kernel : decode k_R_turned.2.1 17 = .ok (.ireturn, 1)), hL⟩
    · refine ai (r_if_ne_t (pc := 13) (tgt := 18) (by decide +kernel : decode k_R_turned.2.1 13 = .ok (.ifCond .ne (5), 3)) (by decide) c10) ?_
      refine ai (r_iconst (pc := 18) (by decide +kernel : decode k_R_turned.2.1 18 = .ok (.iconst 0, 1)) ic_0) ?_
      refine ai (e_istore_n (pc := 19) rfl (by decide +kernel : decode k_R_turned.2.1 19 = .ok (.istore_n 3, 1)) rfl (by decide) rfl) ?_
      exact (ai (r_sub [1, 2, 3, 0] rfl) (R_turned_20_run hL h))
set_option maxRecDepth 100000 in
set_option maxHeartbeats 4000000 in
theorem R_value_run {x1 : Int32} {x2 : Int32} {m m' : Mem} {r : Int32} (hL : RL m) (h : R_value x1 x2 m = some (r, m')) : Run k_R_value 0 [(0, .ref 0), (1, .int x1), (2, .int x2)] [] m (some (.int r)) m' ∧ RL m' := by
  unfold R_value at h
  refine ai (r_iload_n (pc := 0) (k := 1) (by decide +kernel : decode k_R_value.2.1 0 = .ok (.iload_n 1, 1)) rfl rfl) ?_
  refine ai (r_iconst (pc := 1) (by decide +kernel : decode k_R_value.2.1 1 = .ok (.iconst 0, 1)) ic_0) ?_
  refine ai (r_bipush (pc := 2) (by decide +kernel : decode k_R_value.2.1 2 = .ok (.bipush (15), 2)) (by decide : _ = (15 : Int32))) ?_
  obtain ⟨r1, hr1, h⟩ := bp_some h
  refine ai (q_callS (pc := 4) (As := [.int x1, .int 0, .int 15]) (st := []) (st2 := [.int r1]) rfl rfl (by decide +kernel : decode k_R_value.2.1 4 = .ok (.invokestatic 433, 3)) lc_12_433 mo_R_in ⟨Nat.le_of_ble_eq_true rfl, Nat.le_of_ble_eq_true rfl⟩ (Nat.le_of_ble_eq_true rfl) (Nat.le_of_ble_eq_true rfl) (R_in_run hr1)) ?_
  rcases ite_some h with ⟨c2, h⟩ | ⟨c2, h⟩
  · refine ai (r_if_eq_t (pc := 7) (tgt := 21) (by decide +kernel : decode k_R_value.2.1 7 = .ok (.ifCond .eq (14), 3)) (by decide) c2) ?_
    refine ai (r_iconst (pc := 21) (by decide +kernel : decode k_R_value.2.1 21 = .ok (.iconst 0, 1)) ic_0) ?_
    cases h
    exact ⟨r_zret (by decide) rfl (by decide +kernel : decode k_R_value.2.1 22 = .ok (.ireturn, 1)), hL⟩
  · refine ai (r_if_eq_f (pc := 7) 21 (by decide +kernel : decode k_R_value.2.1 7 = .ok (.ifCond .eq (14), 3)) (by decide) c2) ?_
    refine ai (r_iload_n (pc := 10) (k := 2) (by decide +kernel : decode k_R_value.2.1 10 = .ok (.iload_n 2, 1)) rfl rfl) ?_
    refine ai (r_iconst (pc := 11) (by decide +kernel : decode k_R_value.2.1 11 = .ok (.iconst 0, 1)) ic_0) ?_
    refine ai (r_sipush (pc := 12) (by decide +kernel : decode k_R_value.2.1 12 = .ok (.sipush (999), 3)) (by decide : _ = (999 : Int32))) ?_
    obtain ⟨r3, hr3, h⟩ := bp_some h
    refine ai (q_callS (pc := 15) (As := [.int x2, .int 0, .int 999]) (st := []) (st2 := [.int r3]) rfl rfl (by decide +kernel : decode k_R_value.2.1 15 = .ok (.invokestatic 433, 3)) lc_12_433 mo_R_in ⟨Nat.le_of_ble_eq_true rfl, Nat.le_of_ble_eq_true rfl⟩ (Nat.le_of_ble_eq_true rfl) (Nat.le_of_ble_eq_true rfl) (R_in_run hr3)) ?_
    rcases ite_some h with ⟨c4, h⟩ | ⟨c4, h⟩
    · refine ai (r_if_ne_f (pc := 18) 23 (by decide +kernel : decode k_R_value.2.1 18 = .ok (.ifCond .ne (5), 3)) (by decide) c4) ?_
      refine ai (r_iconst (pc := 21) (by decide +kernel : decode k_R_value.2.1 21 = .ok (.iconst 0, 1)) ic_0) ?_
      cases h
      exact ⟨r_zret (by decide) rfl (by decide +kernel : decode k_R_value.2.1 22 = .ok (.ireturn, 1)), hL⟩
    · refine ai (r_if_ne_t (pc := 18) (tgt := 23) (by decide +kernel : decode k_R_value.2.1 18 = .ok (.ifCond .ne (5), 3)) (by decide) c4) ?_
      refine ai (p_aload_n (pc := 23) (k := 0) (by decide +kernel : decode k_R_value.2.1 23 = .ok (.aload_n 0, 1)) rfl rfl) ?_
      refine ai (p_getr (pc := 24) (RR_1647_0 hL) (by decide +kernel : decode k_R_value.2.1 24 = .ok (.getfield 245, 3)) lg_12_245 (RC_0 hL).1) ?_
      refine ai (r_iload_n (pc := 27) (k := 1) (by decide +kernel : decode k_R_value.2.1 27 = .ok (.iload_n 1, 1)) rfl rfl) ?_
      refine ai (r_iload_n (pc := 28) (k := 2) (by decide +kernel : decode k_R_value.2.1 28 = .ok (.iload_n 2, 1)) rfl rfl) ?_
      obtain ⟨g5, h⟩ := gd_some h
      have c6 := (RC_73 hL).1
      have c7 := (RC_73 hL).2
      obtain ⟨m8, hm8, h⟩ := vb_some h
      have hL : RL m8 := by rw [hm8]; exact hL
      refine ai (p_iast (pc := 29) hm8 (by decide +kernel : decode k_R_value.2.1 29 = .ok (.iastore, 1)) c6 c7 g5) ?_
      refine ai (r_iconst (pc := 30) (by decide +kernel : decode k_R_value.2.1 30 = .ok (.iconst 1, 1)) ic_1) ?_
      cases h
      exact ⟨r_zret (by decide) rfl (by decide +kernel : decode k_R_value.2.1 31 = .ok (.ireturn, 1)), hL⟩
set_option maxRecDepth 100000 in
set_option maxHeartbeats 4000000 in
theorem R_apart_run {x1 : Int32} {x2 : Int32} {x3 : Int32} {m m' : Mem} {r : Int32} (hL : RL m) (h : R_apart x1 x2 x3 m = some (r, m')) : Run k_R_apart 0 [(0, .ref 0), (1, .int x1), (2, .int x2), (3, .int x3)] [] m (some (.int r)) m' ∧ RL m' := by
  unfold R_apart at h
  refine ai (r_iload_n (pc := 0) (k := 1) (by decide +kernel : decode k_R_apart.2.1 0 = .ok (.iload_n 1, 1)) rfl rfl) ?_
  refine ai (r_iconst (pc := 1) (by decide +kernel : decode k_R_apart.2.1 1 = .ok (.iconst 0, 1)) ic_0) ?_
  refine ai (r_bipush (pc := 2) (by decide +kernel : decode k_R_apart.2.1 2 = .ok (.bipush (15), 2)) (by decide : _ = (15 : Int32))) ?_
  obtain ⟨r1, hr1, h⟩ := bp_some h
  refine ai (q_callS (pc := 4) (As := [.int x1, .int 0, .int 15]) (st := []) (st2 := [.int r1]) rfl rfl (by decide +kernel : decode k_R_apart.2.1 4 = .ok (.invokestatic 433, 3)) lc_12_433 mo_R_in ⟨Nat.le_of_ble_eq_true rfl, Nat.le_of_ble_eq_true rfl⟩ (Nat.le_of_ble_eq_true rfl) (Nat.le_of_ble_eq_true rfl) (R_in_run hr1)) ?_
  rcases ite_some h with ⟨c2, h⟩ | ⟨c2, h⟩
  · refine ai (r_if_eq_t (pc := 7) (tgt := 25) (by decide +kernel : decode k_R_apart.2.1 7 = .ok (.ifCond .eq (18), 3)) (by decide) c2) ?_
    refine ai (r_iconst (pc := 25) (by decide +kernel : decode k_R_apart.2.1 25 = .ok (.iconst 0, 1)) ic_0) ?_
    cases h
    exact ⟨r_zret (by decide) rfl (by decide +kernel : decode k_R_apart.2.1 26 = .ok (.ireturn, 1)), hL⟩
  · refine ai (r_if_eq_f (pc := 7) 25 (by decide +kernel : decode k_R_apart.2.1 7 = .ok (.ifCond .eq (18), 3)) (by decide) c2) ?_
    refine ai (r_iload_n (pc := 10) (k := 2) (by decide +kernel : decode k_R_apart.2.1 10 = .ok (.iload_n 2, 1)) rfl rfl) ?_
    refine ai (r_iconst (pc := 11) (by decide +kernel : decode k_R_apart.2.1 11 = .ok (.iconst 0, 1)) ic_0) ?_
    refine ai (r_bipush (pc := 12) (by decide +kernel : decode k_R_apart.2.1 12 = .ok (.bipush (15), 2)) (by decide : _ = (15 : Int32))) ?_
    obtain ⟨r3, hr3, h⟩ := bp_some h
    refine ai (q_callS (pc := 14) (As := [.int x2, .int 0, .int 15]) (st := []) (st2 := [.int r3]) rfl rfl (by decide +kernel : decode k_R_apart.2.1 14 = .ok (.invokestatic 433, 3)) lc_12_433 mo_R_in ⟨Nat.le_of_ble_eq_true rfl, Nat.le_of_ble_eq_true rfl⟩ (Nat.le_of_ble_eq_true rfl) (Nat.le_of_ble_eq_true rfl) (R_in_run hr3)) ?_
    rcases ite_some h with ⟨c4, h⟩ | ⟨c4, h⟩
    · refine ai (r_if_eq_t (pc := 17) (tgt := 25) (by decide +kernel : decode k_R_apart.2.1 17 = .ok (.ifCond .eq (8), 3)) (by decide) c4) ?_
      refine ai (r_iconst (pc := 25) (by decide +kernel : decode k_R_apart.2.1 25 = .ok (.iconst 0, 1)) ic_0) ?_
      cases h
      exact ⟨r_zret (by decide) rfl (by decide +kernel : decode k_R_apart.2.1 26 = .ok (.ireturn, 1)), hL⟩
    · refine ai (r_if_eq_f (pc := 17) 25 (by decide +kernel : decode k_R_apart.2.1 17 = .ok (.ifCond .eq (8), 3)) (by decide) c4) ?_
      refine ai (r_iload_n (pc := 20) (k := 1) (by decide +kernel : decode k_R_apart.2.1 20 = .ok (.iload_n 1, 1)) rfl rfl) ?_
      refine ai (r_iload_n (pc := 21) (k := 2) (by decide +kernel : decode k_R_apart.2.1 21 = .ok (.iload_n 2, 1)) rfl rfl) ?_
      rcases ite_some h with ⟨c5, h⟩ | ⟨c5, h⟩
      · refine ai (r_icmp_ne_f (pc := 22) 27 (by decide +kernel : decode k_R_apart.2.1 22 = .ok (.if_icmp .ne (5), 3)) (by decide) c5) ?_
        refine ai (r_iconst (pc := 25) (by decide +kernel : decode k_R_apart.2.1 25 = .ok (.iconst 0, 1)) ic_0) ?_
        cases h
        exact ⟨r_zret (by decide) rfl (by decide +kernel : decode k_R_apart.2.1 26 = .ok (.ireturn, 1)), hL⟩
      · refine ai (r_icmp_ne_t (pc := 22) (tgt := 27) (by decide +kernel : decode k_R_apart.2.1 22 = .ok (.if_icmp .ne (5), 3)) (by decide) c5) ?_
        refine ai (p_aload_n (pc := 27) (k := 0) (by decide +kernel : decode k_R_apart.2.1 27 = .ok (.aload_n 0, 1)) rfl rfl) ?_
        refine ai (p_getr (pc := 28) (RR_1648_0 hL) (by decide +kernel : decode k_R_apart.2.1 28 = .ok (.getfield 248, 3)) lg_12_248 (RC_0 hL).1) ?_
        refine ai (r_bipush (pc := 31) (by decide +kernel : decode k_R_apart.2.1 31 = .ok (.bipush (16), 2)) (by decide : _ = (16 : Int32))) ?_
        refine ai (r_iload_n (pc := 33) (k := 1) (by decide +kernel : decode k_R_apart.2.1 33 = .ok (.iload_n 1, 1)) rfl rfl) ?_
        refine ai (r_imul (pc := 34) (by decide +kernel : decode k_R_apart.2.1 34 = .ok (.imul, 1))) ?_
        refine ai (r_iload_n (pc := 35) (k := 2) (by decide +kernel : decode k_R_apart.2.1 35 = .ok (.iload_n 2, 1)) rfl rfl) ?_
        refine ai (r_iadd (pc := 36) (by decide +kernel : decode k_R_apart.2.1 36 = .ok (.iadd, 1))) ?_
        refine ai (r_iload_n (pc := 37) (k := 3) (by decide +kernel : decode k_R_apart.2.1 37 = .ok (.iload_n 3, 1)) rfl rfl) ?_
        obtain ⟨g6, h⟩ := gd_some h
        obtain ⟨z7, h⟩ := gz_some h
        have c8 := (RC_74 hL).1
        have c9 := (RC_74 hL).2
        obtain ⟨m10, hm10, h⟩ := vb_some h
        have hL : RL m10 := by rw [hm10]; exact hL
        refine ai (p_zast (pc := 38) hm10 z7 (by decide +kernel : decode k_R_apart.2.1 38 = .ok (.bastore, 1)) c8 c9 g6) ?_
        refine ai (p_aload_n (pc := 39) (k := 0) (by decide +kernel : decode k_R_apart.2.1 39 = .ok (.aload_n 0, 1)) rfl rfl) ?_
        refine ai (p_getr (pc := 40) (RR_1648_0 hL) (by decide +kernel : decode k_R_apart.2.1 40 = .ok (.getfield 248, 3)) lg_12_248 (RC_0 hL).1) ?_
        refine ai (r_bipush (pc := 43) (by decide +kernel : decode k_R_apart.2.1 43 = .ok (.bipush (16), 2)) (by decide : _ = (16 : Int32))) ?_
        refine ai (r_iload_n (pc := 45) (k := 2) (by decide +kernel : decode k_R_apart.2.1 45 = .ok (.iload_n 2, 1)) rfl rfl) ?_
        refine ai (r_imul (pc := 46) (by decide +kernel : decode k_R_apart.2.1 46 = .ok (.imul, 1))) ?_
        refine ai (r_iload_n (pc := 47) (k := 1) (by decide +kernel : decode k_R_apart.2.1 47 = .ok (.iload_n 1, 1)) rfl rfl) ?_
        refine ai (r_iadd (pc := 48) (by decide +kernel : decode k_R_apart.2.1 48 = .ok (.iadd, 1))) ?_
        refine ai (r_iload_n (pc := 49) (k := 3) (by decide +kernel : decode k_R_apart.2.1 49 = .ok (.iload_n 3, 1)) rfl rfl) ?_
        obtain ⟨g11, h⟩ := gd_some h
        obtain ⟨z12, h⟩ := gz_some h
        have c13 := (RC_74 hL).1
        have c14 := (RC_74 hL).2
        obtain ⟨m15, hm15, h⟩ := vb_some h
        have hL : RL m15 := by rw [hm15]; exact hL
        refine ai (p_zast (pc := 50) hm15 z12 (by decide +kernel : decode k_R_apart.2.1 50 = .ok (.bastore, 1)) c13 c14 g11) ?_
        refine ai (r_iconst (pc := 51) (by decide +kernel : decode k_R_apart.2.1 51 = .ok (.iconst 1, 1)) ic_1) ?_
        cases h
        exact ⟨r_zret (by decide) rfl (by decide +kernel : decode k_R_apart.2.1 52 = .ok (.ireturn, 1)), hL⟩
