/-! written by gen/emit.py -/
set_option maxRecDepth 100000 in
set_option maxHeartbeats 4000000 in
theorem R_isIn_112_run {k53 : Int32 → Int32 → Int32 → Int32 → Mem → Option (Int32 × Mem)} {x1 : Int32} {x2 : Int32} {x4 : Int32} {x5 : Int32} {m m' : Mem} {r : Int32} (hk53 : ∀ (x1 : Int32) (x2 : Int32) (x4 : Int32) (x5 : Int32) (m : Mem) (r : Int32) (m' : Mem), RL m → k53 x1 x2 x4 x5 m = some (r, m') → Run k_R_isIn 53 [(0, .ref 0), (1, .int x1), (2, .int x2), (4, .int x4), (5, .int x5)] [] m (some (.int r)) m' ∧ RL m') (hL : RL m) (h : R_isIn_112 k53 x1 x2 x4 x5 m = some (r, m')) : Run k_R_isIn 112 [(0, .ref 0), (1, .int x1), (2, .int x2), (4, .int x4), (5, .int x5)] [] m (some (.int r)) m' ∧ RL m' := by
  unfold R_isIn_112 at h
  obtain ⟨v1, hv1, h⟩ := vb_some h
  refine ai (e_iinc (pc := 112) (k := 4) hv1 ic_1 (by decide +kernel : decode k_R_isIn.2.1 112 = .ok (.iinc 5 (1), 3)) rfl (by decide) rfl) ?_
  refine ai (r_goto (pc := 115) (tgt := 53) (by decide +kernel : decode k_R_isIn.2.1 115 = .ok (.goto (-62), 3)) (by decide)) ?_
  exact (ai (r_sub [1, 2, 3, 4, 0] rfl) (hk53 x1 x2 x4 v1 m _ _ hL h))
set_option maxRecDepth 100000 in
set_option maxHeartbeats 4000000 in
theorem R_isIn_53_run {n : Nat} {x1 : Int32} {x2 : Int32} {x4 : Int32} {x5 : Int32} {m m' : Mem} {r : Int32} (hL : RL m) (h : R_isIn_53 n x1 x2 x4 x5 m = some (r, m')) : Run k_R_isIn 53 [(0, .ref 0), (1, .int x1), (2, .int x2), (4, .int x4), (5, .int x5)] [] m (some (.int r)) m' ∧ RL m' := by
  induction n generalizing x1 x2 x4 x5 m r m' with
  | zero => exact absurd h (by simp [R_isIn_53])
  | succ n ih =>
    rw [R_isIn_53.eq_2] at h
    refine ai (r_iload (pc := 53) (k := 4) (by decide +kernel : decode k_R_isIn.2.1 53 = .ok (.iload 5, 2)) rfl) ?_
    refine ai (r_iload (pc := 55) (k := 3) (by decide +kernel : decode k_R_isIn.2.1 55 = .ok (.iload 4, 2)) rfl) ?_
    rcases ite_some h with ⟨c1, h⟩ | ⟨c1, h⟩
    · refine ai (r_icmp_ge_t (pc := 57) (tgt := 118) (by decide +kernel : decode k_R_isIn.2.1 57 = .ok (.if_icmp .ge (61), 3)) (by decide) c1) ?_
      refine ai (r_iconst (pc := 118) (by decide +kernel : decode k_R_isIn.2.1 118 = .ok (.iconst 1, 1)) ic_1) ?_
      cases h
      exact ⟨r_zret (by decide) rfl (by decide +kernel : decode k_R_isIn.2.1 119 = .ok (.ireturn, 1)), hL⟩
    · refine ai (r_icmp_ge_f (pc := 57) 118 (by decide +kernel : decode k_R_isIn.2.1 57 = .ok (.if_icmp .ge (61), 3)) (by decide) c1) ?_
      refine ai (p_aload_n (pc := 60) (k := 0) (by decide +kernel : decode k_R_isIn.2.1 60 = .ok (.aload_n 0, 1)) rfl rfl) ?_
      refine ai (p_getr (pc := 61) (RR_1602_0 hL) (by decide +kernel : decode k_R_isIn.2.1 61 = .ok (.getfield 149, 3)) lg_12_149 (RC_0 hL).1) ?_
      refine ai (r_iload (pc := 64) (k := 4) (by decide +kernel : decode k_R_isIn.2.1 64 = .ok (.iload 5, 2)) rfl) ?_
      obtain ⟨g2, h⟩ := gd_some h
      refine ai (p_iald (pc := 66) (by decide +kernel : decode k_R_isIn.2.1 66 = .ok (.iaload, 1)) (RC_44 hL).1 (RC_44 hL).2 g2) ?_
      refine ai (r_bipush (pc := 67) (by decide +kernel : decode k_R_isIn.2.1 67 = .ok (.bipush (10), 2)) (by decide : _ = (10 : Int32))) ?_
      rcases ite_some h with ⟨c3, h⟩ | ⟨c3, h⟩
      · refine ai (r_icmp_ne_f (pc := 69) 112 (by decide +kernel : decode k_R_isIn.2.1 69 = .ok (.if_icmp .ne (43), 3)) (by decide) c3) ?_
        refine ai (p_aload_n (pc := 72) (k := 0) (by decide +kernel : decode k_R_isIn.2.1 72 = .ok (.aload_n 0, 1)) rfl rfl) ?_
        refine ai (p_getr (pc := 73) (RR_1603_0 hL) (by decide +kernel : decode k_R_isIn.2.1 73 = .ok (.getfield 152, 3)) lg_12_152 (RC_0 hL).1) ?_
        refine ai (r_iload (pc := 76) (k := 4) (by decide +kernel : decode k_R_isIn.2.1 76 = .ok (.iload 5, 2)) rfl) ?_
        obtain ⟨g4, h⟩ := gd_some h
        refine ai (p_iald (pc := 78) (by decide +kernel : decode k_R_isIn.2.1 78 = .ok (.iaload, 1)) (RC_45 hL).1 (RC_45 hL).2 g4) ?_
        refine ai (p_aload_n (pc := 79) (k := 0) (by decide +kernel : decode k_R_isIn.2.1 79 = .ok (.aload_n 0, 1)) rfl rfl) ?_
        refine ai (p_getr (pc := 80) (RR_1559_0 hL) (by decide +kernel : decode k_R_isIn.2.1 80 = .ok (.getfield 52, 3)) lg_12_52 (RC_0 hL).1) ?_
        refine ai (r_iload_n (pc := 83) (k := 1) (by decide +kernel : decode k_R_isIn.2.1 83 = .ok (.iload_n 1, 1)) rfl rfl) ?_
        obtain ⟨g5, h⟩ := gd_some h
        refine ai (p_iald (pc := 84) (by decide +kernel : decode k_R_isIn.2.1 84 = .ok (.iaload, 1)) (RC_12 hL).1 (RC_12 hL).2 g5) ?_
        rcases ite_some h with ⟨c6, h⟩ | ⟨c6, h⟩
        · refine ai (r_icmp_ne_f (pc := 85) 112 (by decide +kernel : decode k_R_isIn.2.1 85 = .ok (.if_icmp .ne (27), 3)) (by decide) c6) ?_
          refine ai (p_aload_n (pc := 88) (k := 0) (by decide +kernel : decode k_R_isIn.2.1 88 = .ok (.aload_n 0, 1)) rfl rfl) ?_
          refine ai (p_getr (pc := 89) (RR_1604_0 hL) (by decide +kernel : decode k_R_isIn.2.1 89 = .ok (.getfield 155, 3)) lg_12_155 (RC_0 hL).1) ?_
          refine ai (r_iload (pc := 92) (k := 4) (by decide +kernel : decode k_R_isIn.2.1 92 = .ok (.iload 5, 2)) rfl) ?_
          obtain ⟨g7, h⟩ := gd_some h
          refine ai (p_iald (pc := 94) (by decide +kernel : decode k_R_isIn.2.1 94 = .ok (.iaload, 1)) (RC_46 hL).1 (RC_46 hL).2 g7) ?_
          refine ai (r_iload_n (pc := 95) (k := 2) (by decide +kernel : decode k_R_isIn.2.1 95 = .ok (.iload_n 2, 1)) rfl rfl) ?_
          rcases ite_some h with ⟨c8, h⟩ | ⟨c8, h⟩
          · refine ai (r_icmp_gt_t (pc := 96) (tgt := 112) (by decide +kernel : decode k_R_isIn.2.1 96 = .ok (.if_icmp .gt (16), 3)) (by decide) c8) ?_
            exact (R_isIn_112_run (fun _ _ _ _ _ _ _ q1 q3 => ih q1 q3) hL h)
          · refine ai (r_icmp_gt_f (pc := 96) 112 (by decide +kernel : decode k_R_isIn.2.1 96 = .ok (.if_icmp .gt (16), 3)) (by decide) c8) ?_
            refine ai (r_iload_n (pc := 99) (k := 2) (by decide +kernel : decode k_R_isIn.2.1 99 = .ok (.iload_n 2, 1)) rfl rfl) ?_
            refine ai (p_aload_n (pc := 100) (k := 0) (by decide +kernel : decode k_R_isIn.2.1 100 = .ok (.aload_n 0, 1)) rfl rfl) ?_
            refine ai (p_getr (pc := 101) (RR_1605_0 hL) (by decide +kernel : decode k_R_isIn.2.1 101 = .ok (.getfield 158, 3)) lg_12_158 (RC_0 hL).1) ?_
            refine ai (r_iload (pc := 104) (k := 4) (by decide +kernel : decode k_R_isIn.2.1 104 = .ok (.iload 5, 2)) rfl) ?_
            obtain ⟨g9, h⟩ := gd_some h
            refine ai (p_iald (pc := 106) (by decide +kernel : decode k_R_isIn.2.1 106 = .ok (.iaload, 1)) (RC_47 hL).1 (RC_47 hL).2 g9) ?_
            rcases ite_some h with ⟨c10, h⟩ | ⟨c10, h⟩
            · refine ai (r_icmp_ge_t (pc := 107) (tgt := 112) (by decide +kernel : decode k_R_isIn.2.1 107 = .ok (.if_icmp .ge (5), 3)) (by decide) c10) ?_
              exact (R_isIn_112_run (fun _ _ _ _ _ _ _ q1 q3 => ih q1 q3) hL h)
            · refine ai (r_icmp_ge_f (pc := 107) 112 (by decide +kernel : decode k_R_isIn.2.1 107 = .ok (.if_icmp .ge (5), 3)) (by decide) c10) ?_
              refine ai (r_iconst (pc := 110) (by decide +kernel : decode k_R_isIn.2.1 110 = .ok (.iconst 0, 1)) ic_0) ?_
              cases h
              exact ⟨r_zret (by decide) rfl (by decide +kernel : decode k_R_isIn.2.1 111 = .ok (.ireturn, 1)), hL⟩
        · refine ai (r_icmp_ne_t (pc := 85) (tgt := 112) (by decide +kernel : decode k_R_isIn.2.1 85 = .ok (.if_icmp .ne (27), 3)) (by decide) c6) ?_
          exact (R_isIn_112_run (fun _ _ _ _ _ _ _ q1 q3 => ih q1 q3) hL h)
      · refine ai (r_icmp_ne_t (pc := 69) (tgt := 112) (by decide +kernel : decode k_R_isIn.2.1 69 = .ok (.if_icmp .ne (43), 3)) (by decide) c3) ?_
        exact (R_isIn_112_run (fun _ _ _ _ _ _ _ q1 q3 => ih q1 q3) hL h)
set_option maxRecDepth 100000 in
set_option maxHeartbeats 4000000 in
theorem R_isIn_43_run {x1 : Int32} {x2 : Int32} {x4 : Int32} {m m' : Mem} {r : Int32} (hL : RL m) (h : R_isIn_43 x1 x2 x4 m = some (r, m')) : Run k_R_isIn 43 [(0, .ref 0), (1, .int x1), (2, .int x2), (4, .int x4)] [] m (some (.int r)) m' ∧ RL m' := by
  unfold R_isIn_43 at h
  refine ai (p_aload_n (pc := 43) (k := 0) (by decide +kernel : decode k_R_isIn.2.1 43 = .ok (.aload_n 0, 1)) rfl rfl) ?_
  refine ai (p_getr (pc := 44) (RR_1559_0 hL) (by decide +kernel : decode k_R_isIn.2.1 44 = .ok (.getfield 52, 3)) lg_12_52 (RC_0 hL).1) ?_
  refine ai (r_iload_n (pc := 47) (k := 1) (by decide +kernel : decode k_R_isIn.2.1 47 = .ok (.iload_n 1, 1)) rfl rfl) ?_
  obtain ⟨g1, h⟩ := gd_some h
  refine ai (p_iald (pc := 48) (by decide +kernel : decode k_R_isIn.2.1 48 = .ok (.iaload, 1)) (RC_12 hL).1 (RC_12 hL).2 g1) ?_
  refine ai (r_iconst (pc := 49) (by decide +kernel : decode k_R_isIn.2.1 49 = .ok (.iconst 1, 1)) ic_1) ?_
  refine ai (r_iadd (pc := 50) (by decide +kernel : decode k_R_isIn.2.1 50 = .ok (.iadd, 1))) ?_
  obtain ⟨v2, hv2, h⟩ := vb_some h
  refine ai (e_istore (pc := 51) hv2 (by decide +kernel : decode k_R_isIn.2.1 51 = .ok (.istore 5, 2)) (by decide) rfl) ?_
  exact (ai (r_sub [1, 2, 3, 4, 0] rfl) (R_isIn_53_run hL h))
set_option maxRecDepth 100000 in
set_option maxHeartbeats 4000000 in
theorem R_isIn_run {x1 : Int32} {x2 : Int32} {x3 : Int32} {x4 : Int32} {m m' : Mem} {r : Int32} (hL : RL m) (h : R_isIn x1 x2 x3 x4 m = some (r, m')) : Run k_R_isIn 0 [(0, .ref 0), (1, .int x1), (2, .int x2), (3, .int x3), (4, .int x4)] [] m (some (.int r)) m' ∧ RL m' := by
  unfold R_isIn at h
  refine ai (p_aload_n (pc := 0) (k := 0) (by decide +kernel : decode k_R_isIn.2.1 0 = .ok (.aload_n 0, 1)) rfl rfl) ?_
  refine ai (p_getr (pc := 1) (RR_1559_0 hL) (by decide +kernel : decode k_R_isIn.2.1 1 = .ok (.getfield 52, 3)) lg_12_52 (RC_0 hL).1) ?_
  refine ai (r_iload_n (pc := 4) (k := 1) (by decide +kernel : decode k_R_isIn.2.1 4 = .ok (.iload_n 1, 1)) rfl rfl) ?_
  obtain ⟨g1, h⟩ := gd_some h
  refine ai (p_iald (pc := 5) (by decide +kernel : decode k_R_isIn.2.1 5 = .ok (.iaload, 1)) (RC_12 hL).1 (RC_12 hL).2 g1) ?_
  refine ai (r_iload (pc := 6) (k := 4) (by decide +kernel : decode k_R_isIn.2.1 6 = .ok (.iload 4, 2)) rfl) ?_
  rcases ite_some h with ⟨c2, h⟩ | ⟨c2, h⟩
  · refine ai (r_icmp_ge_t (pc := 8) (tgt := 41) (by decide +kernel : decode k_R_isIn.2.1 8 = .ok (.if_icmp .ge (33), 3)) (by decide) c2) ?_
    refine ai (r_iconst (pc := 41) (by decide +kernel : decode k_R_isIn.2.1 41 = .ok (.iconst 0, 1)) ic_0) ?_
    cases h
    exact ⟨r_zret (by decide) rfl (by decide +kernel : decode k_R_isIn.2.1 42 = .ok (.ireturn, 1)), hL⟩
  · refine ai (r_icmp_ge_f (pc := 8) 41 (by decide +kernel : decode k_R_isIn.2.1 8 = .ok (.if_icmp .ge (33), 3)) (by decide) c2) ?_
    refine ai (p_aload_n (pc := 11) (k := 0) (by decide +kernel : decode k_R_isIn.2.1 11 = .ok (.aload_n 0, 1)) rfl rfl) ?_
    refine ai (p_getr (pc := 12) (RR_1558_0 hL) (by decide +kernel : decode k_R_isIn.2.1 12 = .ok (.getfield 49, 3)) lg_12_49 (RC_0 hL).1) ?_
    refine ai (r_iload_n (pc := 15) (k := 1) (by decide +kernel : decode k_R_isIn.2.1 15 = .ok (.iload_n 1, 1)) rfl rfl) ?_
    obtain ⟨g3, h⟩ := gd_some h
    refine ai (p_iald (pc := 16) (by decide +kernel : decode k_R_isIn.2.1 16 = .ok (.iaload, 1)) (RC_11 hL).1 (RC_11 hL).2 g3) ?_
    refine ai (r_iload_n (pc := 17) (k := 2) (by decide +kernel : decode k_R_isIn.2.1 17 = .ok (.iload_n 2, 1)) rfl rfl) ?_
    rcases ite_some h with ⟨c4, h⟩ | ⟨c4, h⟩
    · refine ai (r_icmp_gt_t (pc := 18) (tgt := 41) (by decide +kernel : decode k_R_isIn.2.1 18 = .ok (.if_icmp .gt (23), 3)) (by decide) c4) ?_
      refine ai (r_iconst (pc := 41) (by decide +kernel : decode k_R_isIn.2.1 41 = .ok (.iconst 0, 1)) ic_0) ?_
      cases h
      exact ⟨r_zret (by decide) rfl (by decide +kernel : decode k_R_isIn.2.1 42 = .ok (.ireturn, 1)), hL⟩
    · refine ai (r_icmp_gt_f (pc := 18) 41 (by decide +kernel : decode k_R_isIn.2.1 18 = .ok (.if_icmp .gt (23), 3)) (by decide) c4) ?_
      refine ai (p_aload_n (pc := 21) (k := 0) (by decide +kernel : decode k_R_isIn.2.1 21 = .ok (.aload_n 0, 1)) rfl rfl) ?_
      refine ai (p_getr (pc := 22) (RR_1557_0 hL) (by decide +kernel : decode k_R_isIn.2.1 22 = .ok (.getfield 46, 3)) lg_12_46 (RC_0 hL).1) ?_
      refine ai (r_iload_n (pc := 25) (k := 1) (by decide +kernel : decode k_R_isIn.2.1 25 = .ok (.iload_n 1, 1)) rfl rfl) ?_
      obtain ⟨g5, h⟩ := gd_some h
      refine ai (p_iald (pc := 26) (by decide +kernel : decode k_R_isIn.2.1 26 = .ok (.iaload, 1)) (RC_10 hL).1 (RC_10 hL).2 g5) ?_
      refine ai (r_iconst (pc := 27) (by decide +kernel : decode k_R_isIn.2.1 27 = .ok (.iconst (-1), 1)) ic_m1) ?_
      rcases ite_some h with ⟨c6, h⟩ | ⟨c6, h⟩
      · refine ai (r_icmp_eq_t (pc := 28) (tgt := 43) (by decide +kernel : decode k_R_isIn.2.1 28 = .ok (.if_icmp .eq (15), 3)) (by decide) c6) ?_
        exact (ai (r_sub [0, 1, 2, 4] rfl) (R_isIn_43_run hL h))
      · refine ai (r_icmp_eq_f (pc := 28) 43 (by decide +kernel : decode k_R_isIn.2.1 28 = .ok (.if_icmp .eq (15), 3)) (by decide) c6) ?_
        refine ai (p_aload_n (pc := 31) (k := 0) (by decide +kernel : decode k_R_isIn.2.1 31 = .ok (.aload_n 0, 1)) rfl rfl) ?_
        refine ai (p_getr (pc := 32) (RR_1557_0 hL) (by decide +kernel : decode k_R_isIn.2.1 32 = .ok (.getfield 46, 3)) lg_12_46 (RC_0 hL).1) ?_
        refine ai (r_iload_n (pc := 35) (k := 1) (by decide +kernel : decode k_R_isIn.2.1 35 = .ok (.iload_n 1, 1)) rfl rfl) ?_
        obtain ⟨g7, h⟩ := gd_some h
        refine ai (p_iald (pc := 36) (by decide +kernel : decode k_R_isIn.2.1 36 = .ok (.iaload, 1)) (RC_10 hL).1 (RC_10 hL).2 g7) ?_
        refine ai (r_iload_n (pc := 37) (k := 3) (by decide +kernel : decode k_R_isIn.2.1 37 = .ok (.iload_n 3, 1)) rfl rfl) ?_
        rcases ite_some h with ⟨c8, h⟩ | ⟨c8, h⟩
        · refine ai (r_icmp_eq_t (pc := 38) (tgt := 43) (by decide +kernel : decode k_R_isIn.2.1 38 = .ok (.if_icmp .eq (5), 3)) (by decide) c8) ?_
          exact (ai (r_sub [0, 1, 2, 4] rfl) (R_isIn_43_run hL h))
        · refine ai (r_icmp_eq_f (pc := 38) 43 (by decide +kernel : decode k_R_isIn.2.1 38 = .ok (.if_icmp .eq (5), 3)) (by decide) c8) ?_
          refine ai (r_iconst (pc := 41) (by decide +kernel : decode k_R_isIn.2.1 41 = .ok (.iconst 0, 1)) ic_0) ?_
          cases h
          exact ⟨r_zret (by decide) rfl (by decide +kernel : decode k_R_isIn.2.1 42 = .ok (.ireturn, 1)), hL⟩
set_option maxRecDepth 100000 in
set_option maxHeartbeats 4000000 in
theorem R_force_run {x1 : Int32} {x2 : Int32} {x3 : Int32} {x4 : Int32} {m m' : Mem} {r : Int32} (hL : RL m) (h : R_force x1 x2 x3 x4 m = some (r, m')) : Run k_R_force 0 [(0, .ref 0), (1, .int x1), (2, .int x2), (3, .int x3), (4, .int x4)] [] m (some (.int r)) m' ∧ RL m' := by
  unfold R_force at h
  refine ai (p_aload_n (pc := 0) (k := 0) (by decide +kernel : decode k_R_force.2.1 0 = .ok (.aload_n 0, 1)) rfl rfl) ?_
  refine ai (r_iload_n (pc := 1) (k := 1) (by decide +kernel : decode k_R_force.2.1 1 = .ok (.iload_n 1, 1)) rfl rfl) ?_
  refine ai (r_iload_n (pc := 2) (k := 2) (by decide +kernel : decode k_R_force.2.1 2 = .ok (.iload_n 2, 1)) rfl rfl) ?_
  refine ai (r_iload_n (pc := 3) (k := 3) (by decide +kernel : decode k_R_force.2.1 3 = .ok (.iload_n 3, 1)) rfl rfl) ?_
  refine ai (r_iload (pc := 4) (k := 4) (by decide +kernel : decode k_R_force.2.1 4 = .ok (.iload 4, 2)) rfl) ?_
  obtain ⟨r1, m2, hr1, h⟩ := bn_some h
  have q3 := R_isAsked_run hL hr1
  have c4 := (RC_0 hL).1
  have hL := q3.2
  refine ai (q_callV (pc := 6) (As := [.int x1, .int x2, .int x3, .int x4]) (st := []) (st2 := [.int r1]) (b := 0) rfl rfl (by decide +kernel : decode k_R_force.2.1 6 = .ok (.invokevirtual 521, 3)) lc_12_521 mo_R_isAsked ⟨Nat.le_of_ble_eq_true rfl, Nat.le_of_ble_eq_true rfl⟩ (Nat.le_of_ble_eq_true rfl) (Nat.le_of_ble_eq_true rfl) c4 q3.1) ?_
  rcases ite_some h with ⟨c5, h⟩ | ⟨c5, h⟩
  · refine ai (r_if_eq_t (pc := 9) (tgt := 37) (by decide +kernel : decode k_R_force.2.1 9 = .ok (.ifCond .eq (28), 3)) (by decide) c5) ?_
    refine ai (r_iconst (pc := 37) (by decide +kernel : decode k_R_force.2.1 37 = .ok (.iconst (-1), 1)) ic_m1) ?_
    cases h
    exact ⟨r_iret rfl (by decide +kernel : decode k_R_force.2.1 38 = .ok (.ireturn, 1)), hL⟩
  · refine ai (r_if_eq_f (pc := 9) 37 (by decide +kernel : decode k_R_force.2.1 9 = .ok (.ifCond .eq (28), 3)) (by decide) c5) ?_
    refine ai (p_aload_n (pc := 12) (k := 0) (by decide +kernel : decode k_R_force.2.1 12 = .ok (.aload_n 0, 1)) rfl rfl) ?_
    refine ai (p_aload_n (pc := 13) (k := 0) (by decide +kernel : decode k_R_force.2.1 13 = .ok (.aload_n 0, 1)) rfl rfl) ?_
    refine ai (p_getr (pc := 14) (RR_1603_0 hL) (by decide +kernel : decode k_R_force.2.1 14 = .ok (.getfield 152, 3)) lg_12_152 (RC_0 hL).1) ?_
    refine ai (r_iload_n (pc := 17) (k := 1) (by decide +kernel : decode k_R_force.2.1 17 = .ok (.iload_n 1, 1)) rfl rfl) ?_
    obtain ⟨g6, h⟩ := gd_some h
    refine ai (p_iald (pc := 18) (by decide +kernel : decode k_R_force.2.1 18 = .ok (.iaload, 1)) (RC_45 hL).1 (RC_45 hL).2 g6) ?_
    refine ai (r_iload_n (pc := 19) (k := 2) (by decide +kernel : decode k_R_force.2.1 19 = .ok (.iload_n 2, 1)) rfl rfl) ?_
    refine ai (r_iload_n (pc := 20) (k := 3) (by decide +kernel : decode k_R_force.2.1 20 = .ok (.iload_n 3, 1)) rfl rfl) ?_
    refine ai (r_iload (pc := 21) (k := 4) (by decide +kernel : decode k_R_force.2.1 21 = .ok (.iload 4, 2)) rfl) ?_
    obtain ⟨r7, m8, hr7, h⟩ := bn_some h
    have q9 := R_isIn_run hL hr7
    have c10 := (RC_0 hL).1
    have hL := q9.2
    refine ai (q_callV (pc := 23) (As := [.int (aI m2 45 (ix x1)), .int x2, .int x3, .int x4]) (st := []) (st2 := [.int r7]) (b := 0) rfl rfl (by decide +kernel : decode k_R_force.2.1 23 = .ok (.invokevirtual 483, 3)) lc_12_483 mo_R_isIn ⟨Nat.le_of_ble_eq_true rfl, Nat.le_of_ble_eq_true rfl⟩ (Nat.le_of_ble_eq_true rfl) (Nat.le_of_ble_eq_true rfl) c10 q9.1) ?_
    rcases ite_some h with ⟨c11, h⟩ | ⟨c11, h⟩
    · refine ai (r_if_eq_t (pc := 26) (tgt := 33) (by decide +kernel : decode k_R_force.2.1 26 = .ok (.ifCond .eq (7), 3)) (by decide) c11) ?_
      refine ai (r_iconst (pc := 33) (by decide +kernel : decode k_R_force.2.1 33 = .ok (.iconst 0, 1)) ic_0) ?_
      refine ai (r_goto (pc := 34) (tgt := 38) (by decide +kernel : decode k_R_force.2.1 34 = .ok (.goto (4), 3)) (by decide)) ?_
      cases h
      exact ⟨r_iret rfl (by decide +kernel : decode k_R_force.2.1 38 = .ok (.ireturn, 1)), hL⟩
    · refine ai (r_if_eq_f (pc := 26) 33 (by decide +kernel : decode k_R_force.2.1 26 = .ok (.ifCond .eq (7), 3)) (by decide) c11) ?_
      refine ai (r_iconst (pc := 29) (by decide +kernel : decode k_R_force.2.1 29 = .ok (.iconst 1, 1)) ic_1) ?_
      refine ai (r_goto (pc := 30) (tgt := 38) (by decide +kernel : decode k_R_force.2.1 30 = .ok (.goto (8), 3)) (by decide)) ?_
      cases h
      exact ⟨r_iret rfl (by decide +kernel : decode k_R_force.2.1 38 = .ok (.ireturn, 1)), hL⟩
set_option maxRecDepth 100000 in
set_option maxHeartbeats 4000000 in
theorem R_rowOf_5_run {n : Nat} {x1 : Int32} {x2 : Int32} {x3 : Int32} {m m' : Mem} {r : Int32} (hL : RL m) (h : R_rowOf_5 n x1 x2 x3 m = some (r, m')) : Run k_R_rowOf 5 [(0, .ref 0), (1, .int x1), (2, .int x2), (3, .int x3)] [] m (some (.int r)) m' ∧ RL m' := by
  induction n generalizing x1 x2 x3 m r m' with
  | zero => exact absurd h (by simp [R_rowOf_5])
  | succ n ih =>
    rw [R_rowOf_5.eq_2] at h
    refine ai (r_iload_n (pc := 5) (k := 3) (by decide +kernel : decode k_R_rowOf.2.1 5 = .ok (.iload_n 3, 1)) rfl rfl) ?_
    refine ai (r_bipush (pc := 6) (by decide +kernel : decode k_R_rowOf.2.1 6 = .ok (.bipush (64), 2)) (by decide : _ = (64 : Int32))) ?_
    refine ai (r_iload_n (pc := 8) (k := 1) (by decide +kernel : decode k_R_rowOf.2.1 8 = .ok (.iload_n 1, 1)) rfl rfl) ?_
    refine ai (r_imul (pc := 9) (by decide +kernel : decode k_R_rowOf.2.1 9 = .ok (.imul, 1))) ?_
    refine ai (p_aload_n (pc := 10) (k := 0) (by decide +kernel : decode k_R_rowOf.2.1 10 = .ok (.aload_n 0, 1)) rfl rfl) ?_
    refine ai (p_getr (pc := 11) (RR_1616_0 hL) (by decide +kernel : decode k_R_rowOf.2.1 11 = .ok (.getfield 179, 3)) lg_12_179 (RC_0 hL).1) ?_
    refine ai (r_iload_n (pc := 14) (k := 1) (by decide +kernel : decode k_R_rowOf.2.1 14 = .ok (.iload_n 1, 1)) rfl rfl) ?_
    obtain ⟨g1, h⟩ := gd_some h
    refine ai (p_iald (pc := 15) (by decide +kernel : decode k_R_rowOf.2.1 15 = .ok (.iaload, 1)) (RC_53 hL).1 (RC_53 hL).2 g1) ?_
    refine ai (r_iadd (pc := 16) (by decide +kernel : decode k_R_rowOf.2.1 16 = .ok (.iadd, 1))) ?_
    rcases ite_some h with ⟨c2, h⟩ | ⟨c2, h⟩
    · refine ai (r_icmp_ge_t (pc := 17) (tgt := 43) (by decide +kernel : decode k_R_rowOf.2.1 17 = .ok (.if_icmp .ge (26), 3)) (by decide) c2) ?_
      refine ai (r_iconst (pc := 43) (by decide +kernel : decode k_R_rowOf.2.1 43 = .ok (.iconst (-1), 1)) ic_m1) ?_
      cases h
      exact ⟨r_iret rfl (by decide +kernel : decode k_R_rowOf.2.1 44 = .ok (.ireturn, 1)), hL⟩
    · refine ai (r_icmp_ge_f (pc := 17) 43 (by decide +kernel : decode k_R_rowOf.2.1 17 = .ok (.if_icmp .ge (26), 3)) (by decide) c2) ?_
      refine ai (p_aload_n (pc := 20) (k := 0) (by decide +kernel : decode k_R_rowOf.2.1 20 = .ok (.aload_n 0, 1)) rfl rfl) ?_
      refine ai (p_getr (pc := 21) (RR_1563_0 hL) (by decide +kernel : decode k_R_rowOf.2.1 21 = .ok (.getfield 64, 3)) lg_12_64 (RC_0 hL).1) ?_
      refine ai (p_aload_n (pc := 24) (k := 0) (by decide +kernel : decode k_R_rowOf.2.1 24 = .ok (.aload_n 0, 1)) rfl rfl) ?_
      refine ai (p_getr (pc := 25) (RR_1617_0 hL) (by decide +kernel : decode k_R_rowOf.2.1 25 = .ok (.getfield 182, 3)) lg_12_182 (RC_0 hL).1) ?_
      refine ai (r_iload_n (pc := 28) (k := 3) (by decide +kernel : decode k_R_rowOf.2.1 28 = .ok (.iload_n 3, 1)) rfl rfl) ?_
      obtain ⟨g3, h⟩ := gd_some h
      refine ai (p_iald (pc := 29) (by decide +kernel : decode k_R_rowOf.2.1 29 = .ok (.iaload, 1)) (RC_54 hL).1 (RC_54 hL).2 g3) ?_
      obtain ⟨g4, h⟩ := gd_some h
      refine ai (p_iald (pc := 30) (by decide +kernel : decode k_R_rowOf.2.1 30 = .ok (.iaload, 1)) (RC_16 hL).1 (RC_16 hL).2 g4) ?_
      refine ai (r_iload_n (pc := 31) (k := 2) (by decide +kernel : decode k_R_rowOf.2.1 31 = .ok (.iload_n 2, 1)) rfl rfl) ?_
      rcases ite_some h with ⟨c5, h⟩ | ⟨c5, h⟩
      · refine ai (r_icmp_ne_f (pc := 32) 37 (by decide +kernel : decode k_R_rowOf.2.1 32 = .ok (.if_icmp .ne (5), 3)) (by decide) c5) ?_
        refine ai (r_iload_n (pc := 35) (k := 3) (by decide +kernel : decode k_R_rowOf.2.1 35 = .ok (.iload_n 3, 1)) rfl rfl) ?_
        cases h
        exact ⟨r_iret rfl (by decide +kernel : decode k_R_rowOf.2.1 36 = .ok (.ireturn, 1)), hL⟩
      · refine ai (r_icmp_ne_t (pc := 32) (tgt := 37) (by decide +kernel : decode k_R_rowOf.2.1 32 = .ok (.if_icmp .ne (5), 3)) (by decide) c5) ?_
        obtain ⟨v6, hv6, h⟩ := vb_some h
        refine ai (e_iinc (pc := 37) (k := 3) hv6 ic_1 (by decide +kernel : decode k_R_rowOf.2.1 37 = .ok (.iinc 3 (1), 3)) rfl (by decide) rfl) ?_
        refine ai (r_goto (pc := 40) (tgt := 5) (by decide +kernel : decode k_R_rowOf.2.1 40 = .ok (.goto (-35), 3)) (by decide)) ?_
        exact (ai (r_sub [1, 2, 3, 0] rfl) (ih hL h))
set_option maxRecDepth 100000 in
set_option maxHeartbeats 4000000 in
theorem R_rowOf_run {x1 : Int32} {x2 : Int32} {m m' : Mem} {r : Int32} (hL : RL m) (h : R_rowOf x1 x2 m = some (r, m')) : Run k_R_rowOf 0 [(0, .ref 0), (1, .int x1), (2, .int x2)] [] m (some (.int r)) m' ∧ RL m' := by
  unfold R_rowOf at h
  refine ai (r_bipush (pc := 0) (by decide +kernel : decode k_R_rowOf.2.1 0 = .ok (.bipush (64), 2)) (by decide : _ = (64 : Int32))) ?_
  refine ai (r_iload_n (pc := 2) (k := 1) (by decide +kernel : decode k_R_rowOf.2.1 2 = .ok (.iload_n 1, 1)) rfl rfl) ?_
  refine ai (r_imul (pc := 3) (by decide +kernel : decode k_R_rowOf.2.1 3 = .ok (.imul, 1))) ?_
  obtain ⟨v1, hv1, h⟩ := vb_some h
  refine ai (e_istore_n (pc := 4) hv1 (by decide +kernel : decode k_R_rowOf.2.1 4 = .ok (.istore_n 3, 1)) rfl (by decide) rfl) ?_
  exact (ai (r_sub [1, 2, 3, 0] rfl) (R_rowOf_5_run hL h))
set_option maxRecDepth 100000 in
set_option maxHeartbeats 4000000 in
theorem R_goes_53_run {x1 : Int32} {m m' : Mem} {r : Unit} (hL : RL m) (h : R_goes_53 x1 m = some (r, m')) : Run k_R_goes 53 [(0, .ref 0), (1, .int x1)] [] m none m' ∧ RL m' := by
  unfold R_goes_53 at h
  refine ai (p_aload_n (pc := 53) (k := 0) (by decide +kernel : decode k_R_goes.2.1 53 = .ok (.aload_n 0, 1)) rfl rfl) ?_
  refine ai (p_getr (pc := 54) (RR_1616_0 hL) (by decide +kernel : decode k_R_goes.2.1 54 = .ok (.getfield 179, 3)) lg_12_179 (RC_0 hL).1) ?_
  refine ai (r_iload_n (pc := 57) (k := 1) (by decide +kernel : decode k_R_goes.2.1 57 = .ok (.iload_n 1, 1)) rfl rfl) ?_
  refine ai (r_dup2 (pc := 58) (by decide +kernel : decode k_R_goes.2.1 58 = .ok (.dup2, 1)) rfl rfl) ?_
  obtain ⟨g1, h⟩ := gd_some h
  refine ai (p_iald (pc := 59) (by decide +kernel : decode k_R_goes.2.1 59 = .ok (.iaload, 1)) (RC_53 hL).1 (RC_53 hL).2 g1) ?_
  refine ai (r_iconst (pc := 60) (by decide +kernel : decode k_R_goes.2.1 60 = .ok (.iconst 1, 1)) ic_1) ?_
  refine ai (r_isub (pc := 61) (by decide +kernel : decode k_R_goes.2.1 61 = .ok (.isub, 1))) ?_
  obtain ⟨g2, h⟩ := gd_some h
  have c3 := (RC_53 hL).1
  have c4 := (RC_53 hL).2
  obtain ⟨m5, hm5, h⟩ := vb_some h
  have hL : RL m5 := by rw [hm5]; exact hL
  refine ai (p_iast (pc := 62) hm5 (by decide +kernel : decode k_R_goes.2.1 62 = .ok (.iastore, 1)) c3 c4 g2) ?_
  cases h
  exact ⟨r_vret rfl (by decide +kernel : decode k_R_goes.2.1 63 = .ok (.return_, 1)), hL⟩
set_option maxRecDepth 100000 in
set_option maxHeartbeats 4000000 in
theorem R_goes_2_run {n : Nat} {x1 : Int32} {x3 : Int32} {m m' : Mem} {r : Unit} (hL : RL m) (h : R_goes_2 n x1 x3 m = some (r, m')) : Run k_R_goes 2 [(0, .ref 0), (1, .int x1), (3, .int x3)] [] m none m' ∧ RL m' := by
  induction n generalizing x1 x3 m r m' with
  | zero => exact absurd h (by simp [R_goes_2])
  | succ n ih =>
    rw [R_goes_2.eq_2] at h
    refine ai (r_iload_n (pc := 2) (k := 2) (by decide +kernel : decode k_R_goes.2.1 2 = .ok (.iload_n 3, 1)) rfl rfl) ?_
    refine ai (r_iconst (pc := 3) (by decide +kernel : decode k_R_goes.2.1 3 = .ok (.iconst 1, 1)) ic_1) ?_
    refine ai (r_iadd (pc := 4) (by decide +kernel : decode k_R_goes.2.1 4 = .ok (.iadd, 1))) ?_
    refine ai (r_bipush (pc := 5) (by decide +kernel : decode k_R_goes.2.1 5 = .ok (.bipush (64), 2)) (by decide : _ = (64 : Int32))) ?_
    refine ai (r_iload_n (pc := 7) (k := 1) (by decide +kernel : decode k_R_goes.2.1 7 = .ok (.iload_n 1, 1)) rfl rfl) ?_
    refine ai (r_imul (pc := 8) (by decide +kernel : decode k_R_goes.2.1 8 = .ok (.imul, 1))) ?_
    refine ai (p_aload_n (pc := 9) (k := 0) (by decide +kernel : decode k_R_goes.2.1 9 = .ok (.aload_n 0, 1)) rfl rfl) ?_
    refine ai (p_getr (pc := 10) (RR_1616_0 hL) (by decide +kernel : decode k_R_goes.2.1 10 = .ok (.getfield 179, 3)) lg_12_179 (RC_0 hL).1) ?_
    refine ai (r_iload_n (pc := 13) (k := 1) (by decide +kernel : decode k_R_goes.2.1 13 = .ok (.iload_n 1, 1)) rfl rfl) ?_
    obtain ⟨g1, h⟩ := gd_some h
    refine ai (p_iald (pc := 14) (by decide +kernel : decode k_R_goes.2.1 14 = .ok (.iaload, 1)) (RC_53 hL).1 (RC_53 hL).2 g1) ?_
    refine ai (r_iadd (pc := 15) (by decide +kernel : decode k_R_goes.2.1 15 = .ok (.iadd, 1))) ?_
    rcases ite_some h with ⟨c2, h⟩ | ⟨c2, h⟩
    · refine ai (r_icmp_ge_t (pc := 16) (tgt := 53) (by decide +kernel : decode k_R_goes.2.1 16 = .ok (.if_icmp .ge (37), 3)) (by decide) c2) ?_
      exact (ai (r_sub [0, 1] rfl) (R_goes_53_run hL h))
    · refine ai (r_icmp_ge_f (pc := 16) 53 (by decide +kernel : decode k_R_goes.2.1 16 = .ok (.if_icmp .ge (37), 3)) (by decide) c2) ?_
      refine ai (p_aload_n (pc := 19) (k := 0) (by decide +kernel : decode k_R_goes.2.1 19 = .ok (.aload_n 0, 1)) rfl rfl) ?_
      refine ai (p_getr (pc := 20) (RR_1617_0 hL) (by decide +kernel : decode k_R_goes.2.1 20 = .ok (.getfield 182, 3)) lg_12_182 (RC_0 hL).1) ?_
      refine ai (r_iload_n (pc := 23) (k := 2) (by decide +kernel : decode k_R_goes.2.1 23 = .ok (.iload_n 3, 1)) rfl rfl) ?_
      refine ai (p_aload_n (pc := 24) (k := 0) (by decide +kernel : decode k_R_goes.2.1 24 = .ok (.aload_n 0, 1)) rfl rfl) ?_
      refine ai (p_getr (pc := 25) (RR_1617_0 hL) (by decide +kernel : decode k_R_goes.2.1 25 = .ok (.getfield 182, 3)) lg_12_182 (RC_0 hL).1) ?_
      refine ai (r_iload_n (pc := 28) (k := 2) (by decide +kernel : decode k_R_goes.2.1 28 = .ok (.iload_n 3, 1)) rfl rfl) ?_
      refine ai (r_iconst (pc := 29) (by decide +kernel : decode k_R_goes.2.1 29 = .ok (.iconst 1, 1)) ic_1) ?_
      refine ai (r_iadd (pc := 30) (by decide +kernel : decode k_R_goes.2.1 30 = .ok (.iadd, 1))) ?_
      obtain ⟨g3, h⟩ := gd_some h
      refine ai (p_iald (pc := 31) (by decide +kernel : decode k_R_goes.2.1 31 = .ok (.iaload, 1)) (RC_54 hL).1 (RC_54 hL).2 g3) ?_
      obtain ⟨g4, h⟩ := gd_some h
      have c5 := (RC_54 hL).1
      have c6 := (RC_54 hL).2
      obtain ⟨m7, hm7, h⟩ := vb_some h
      have hL : RL m7 := by rw [hm7]; exact hL
      refine ai (p_iast (pc := 32) hm7 (by decide +kernel : decode k_R_goes.2.1 32 = .ok (.iastore, 1)) c5 c6 g4) ?_
      refine ai (p_aload_n (pc := 33) (k := 0) (by decide +kernel : decode k_R_goes.2.1 33 = .ok (.aload_n 0, 1)) rfl rfl) ?_
      refine ai (p_getr (pc := 34) (RR_1618_0 hL) (by decide +kernel : decode k_R_goes.2.1 34 = .ok (.getfield 185, 3)) lg_12_185 (RC_0 hL).1) ?_
      refine ai (r_iload_n (pc := 37) (k := 2) (by decide +kernel : decode k_R_goes.2.1 37 = .ok (.iload_n 3, 1)) rfl rfl) ?_
      refine ai (p_aload_n (pc := 38) (k := 0) (by decide +kernel : decode k_R_goes.2.1 38 = .ok (.aload_n 0, 1)) rfl rfl) ?_
      refine ai (p_getr (pc := 39) (RR_1618_0 hL) (by decide +kernel : decode k_R_goes.2.1 39 = .ok (.getfield 185, 3)) lg_12_185 (RC_0 hL).1) ?_
      refine ai (r_iload_n (pc := 42) (k := 2) (by decide +kernel : decode k_R_goes.2.1 42 = .ok (.iload_n 3, 1)) rfl rfl) ?_
      refine ai (r_iconst (pc := 43) (by decide +kernel : decode k_R_goes.2.1 43 = .ok (.iconst 1, 1)) ic_1) ?_
      refine ai (r_iadd (pc := 44) (by decide +kernel : decode k_R_goes.2.1 44 = .ok (.iadd, 1))) ?_
      obtain ⟨g8, h⟩ := gd_some h
      refine ai (p_iald (pc := 45) (by decide +kernel : decode k_R_goes.2.1 45 = .ok (.iaload, 1)) (RC_55 hL).1 (RC_55 hL).2 g8) ?_
      obtain ⟨g9, h⟩ := gd_some h
      have c10 := (RC_55 hL).1
      have c11 := (RC_55 hL).2
      obtain ⟨m12, hm12, h⟩ := vb_some h
      have hL : RL m12 := by rw [hm12]; exact hL
      refine ai (p_iast (pc := 46) hm12 (by decide +kernel : decode k_R_goes.2.1 46 = .ok (.iastore, 1)) c10 c11 g9) ?_
      obtain ⟨v13, hv13, h⟩ := vb_some h
      refine ai (e_iinc (pc := 47) (k := 2) hv13 ic_1 (by decide +kernel : decode k_R_goes.2.1 47 = .ok (.iinc 3 (1), 3)) rfl (by decide) rfl) ?_
      refine ai (r_goto (pc := 50) (tgt := 2) (by decide +kernel : decode k_R_goes.2.1 50 = .ok (.goto (-48), 3)) (by decide)) ?_
      exact (ai (r_sub [1, 2, 0] rfl) (ih hL h))
set_option maxRecDepth 100000 in
set_option maxHeartbeats 4000000 in
theorem R_goes_run {x1 : Int32} {x2 : Int32} {m m' : Mem} {r : Unit} (hL : RL m) (h : R_goes x1 x2 m = some (r, m')) : Run k_R_goes 0 [(0, .ref 0), (1, .int x1), (2, .int x2)] [] m none m' ∧ RL m' := by
  unfold R_goes at h
  refine ai (r_iload_n (pc := 0) (k := 2) (by decide +kernel : decode k_R_goes.2.1 0 = .ok (.iload_n 2, 1)) rfl rfl) ?_
  refine ai (e_istore_n (pc := 1) rfl (by decide +kernel : decode k_R_goes.2.1 1 = .ok (.istore_n 3, 1)) rfl (by decide) rfl) ?_
  exact (ai (r_sub [1, 2, 0] rfl) (R_goes_2_run hL h))
set_option maxRecDepth 100000 in
set_option maxHeartbeats 4000000 in
theorem R_termOf_164_run {k10 : Int32 → Int32 → Int32 → Mem → Option (Int32 × Mem)} {x2 : Int32} {x3 : Int32} {x4 : Int32} {m m' : Mem} {r : Int32} (hk10 : ∀ (x2 : Int32) (x3 : Int32) (x4 : Int32) (m : Mem) (r : Int32) (m' : Mem), RL m → k10 x2 x3 x4 m = some (r, m') → Run k_R_termOf 10 [(0, .ref 0), (2, .int x2), (3, .int x3), (4, .int x4)] [] m (some (.int r)) m' ∧ RL m') (hL : RL m) (h : R_termOf_164 k10 x2 x3 x4 m = some (r, m')) : Run k_R_termOf 164 [(0, .ref 0), (2, .int x2), (3, .int x3), (4, .int x4)] [] m (some (.int r)) m' ∧ RL m' := by
  unfold R_termOf_164 at h
  obtain ⟨v1, hv1, h⟩ := vb_some h
  refine ai (e_iinc (pc := 164) (k := 3) hv1 ic_1 (by decide +kernel : decode k_R_termOf.2.1 164 = .ok (.iinc 4 (1), 3)) rfl (by decide) rfl) ?_
  refine ai (r_goto (pc := 167) (tgt := 10) (by decide +kernel : decode k_R_termOf.2.1 167 = .ok (.goto (-157), 3)) (by decide)) ?_
  exact (ai (r_sub [1, 2, 3, 0] rfl) (hk10 x2 x3 v1 m _ _ hL h))
set_option maxRecDepth 100000 in
set_option maxHeartbeats 4000000 in
theorem R_termOf_63_run {k10 : Int32 → Int32 → Int32 → Mem → Option (Int32 × Mem)} {x2 : Int32} {x3 : Int32} {x4 : Int32} {s0 : Int32} {s1 : Int32} {m m' : Mem} {r : Int32} (hk10 : ∀ (x2 : Int32) (x3 : Int32) (x4 : Int32) (m : Mem) (r : Int32) (m' : Mem), RL m → k10 x2 x3 x4 m = some (r, m') → Run k_R_termOf 10 [(0, .ref 0), (2, .int x2), (3, .int x3), (4, .int x4)] [] m (some (.int r)) m' ∧ RL m') (hL : RL m) (h : R_termOf_63 k10 x2 x3 x4 s0 s1 m = some (r, m')) : Run k_R_termOf 63 [(0, .ref 0), (2, .int x2), (3, .int x3), (4, .int x4)] [.int s0, .int s1, .ref 51] m (some (.int r)) m' ∧ RL m' := by
  unfold R_termOf_63 at h
  obtain ⟨g1, h⟩ := gd_some h
  have c2 := (RC_51 hL).1
  have c3 := (RC_51 hL).2
  obtain ⟨m4, hm4, h⟩ := vb_some h
  have hL : RL m4 := by rw [hm4]; exact hL
  refine ai (p_iast (pc := 63) hm4 (by decide +kernel : decode k_R_termOf.2.1 63 = .ok (.iastore, 1)) c2 c3 g1) ?_
  obtain ⟨v5, hv5, h⟩ := vb_some h
  refine ai (e_iinc (pc := 64) (k := 2) hv5 ic_1 (by decide +kernel : decode k_R_termOf.2.1 64 = .ok (.iinc 3 (1), 3)) rfl (by decide) rfl) ?_
  refine ai (r_goto (pc := 67) (tgt := 164) (by decide +kernel : decode k_R_termOf.2.1 67 = .ok (.goto (97), 3)) (by decide)) ?_
  exact (ai (r_sub [1, 2, 0, 3] rfl) (R_termOf_164_run hk10 hL h))
set_option maxRecDepth 100000 in
set_option maxHeartbeats 4000000 in
theorem R_termOf_102_run {m m' : Mem} {r : Int32} (hL : RL m) (h : R_termOf_102 m = some (r, m')) : Run k_R_termOf 102 [(0, .ref 0)] [] m (some (.int r)) m' ∧ RL m' := by
  unfold R_termOf_102 at h
  refine ai (p_aload_n (pc := 102) (k := 0) (by decide +kernel : decode k_R_termOf.2.1 102 = .ok (.aload_n 0, 1)) rfl rfl) ?_
  refine ai (r_iconst (pc := 103) (by decide +kernel : decode k_R_termOf.2.1 103 = .ok (.iconst 1, 1)) ic_1) ?_
  have c1 := (RC_0 hL).1
  obtain ⟨m2, hm2, h⟩ := vb_some h
  have hL : RL m2 := by rw [hm2]; exact hL
  refine ai (p_putZ (pc := 104) hm2 (by decide) (by decide +kernel : decode k_R_termOf.2.1 104 = .ok (.putfield 464, 3)) lp_12_464 c1) ?_
  refine ai (r_iconst (pc := 107) (by decide +kernel : decode k_R_termOf.2.1 107 = .ok (.iconst 0, 1)) ic_0) ?_
  cases h
  exact ⟨r_iret rfl (by decide +kernel : decode k_R_termOf.2.1 108 = .ok (.ireturn, 1)), hL⟩
set_option maxRecDepth 100000 in
set_option maxHeartbeats 4000000 in
theorem R_termOf_163_run {k10 : Int32 → Int32 → Int32 → Mem → Option (Int32 × Mem)} {x2 : Int32} {x3 : Int32} {x4 : Int32} {s0 : Int32} {s1 : Int32} {m m' : Mem} {r : Int32} (hk10 : ∀ (x2 : Int32) (x3 : Int32) (x4 : Int32) (m : Mem) (r : Int32) (m' : Mem), RL m → k10 x2 x3 x4 m = some (r, m') → Run k_R_termOf 10 [(0, .ref 0), (2, .int x2), (3, .int x3), (4, .int x4)] [] m (some (.int r)) m' ∧ RL m') (hL : RL m) (h : R_termOf_163 k10 x2 x3 x4 s0 s1 m = some (r, m')) : Run k_R_termOf 163 [(0, .ref 0), (2, .int x2), (3, .int x3), (4, .int x4)] [.int s0, .int s1, .ref 51] m (some (.int r)) m' ∧ RL m' := by
  unfold R_termOf_163 at h
  obtain ⟨g1, h⟩ := gd_some h
  have c2 := (RC_51 hL).1
  have c3 := (RC_51 hL).2
  obtain ⟨m4, hm4, h⟩ := vb_some h
  have hL : RL m4 := by rw [hm4]; exact hL
  refine ai (p_iast (pc := 163) hm4 (by decide +kernel : decode k_R_termOf.2.1 163 = .ok (.iastore, 1)) c2 c3 g1) ?_
  exact (R_termOf_164_run hk10 hL h)
set_option maxRecDepth 100000 in
set_option maxHeartbeats 4000000 in
theorem R_termOf_109_run {k10 : Int32 → Int32 → Int32 → Mem → Option (Int32 × Mem)} {x2 : Int32} {x3 : Int32} {x4 : Int32} {x5 : Int32} {x6 : Int32} {x7 : Int32} {m m' : Mem} {r : Int32} (hk10 : ∀ (x2 : Int32) (x3 : Int32) (x4 : Int32) (m : Mem) (r : Int32) (m' : Mem), RL m → k10 x2 x3 x4 m = some (r, m') → Run k_R_termOf 10 [(0, .ref 0), (2, .int x2), (3, .int x3), (4, .int x4)] [] m (some (.int r)) m' ∧ RL m') (hL : RL m) (h : R_termOf_109 k10 x2 x3 x4 x5 x6 x7 m = some (r, m')) : Run k_R_termOf 109 [(0, .ref 0), (2, .int x2), (3, .int x3), (4, .int x4), (5, .int x5), (6, .int x6), (7, .int x7)] [] m (some (.int r)) m' ∧ RL m' := by
  unfold R_termOf_109 at h
  refine ai (p_aload_n (pc := 109) (k := 0) (by decide +kernel : decode k_R_termOf.2.1 109 = .ok (.aload_n 0, 1)) rfl rfl) ?_
  refine ai (p_getr (pc := 110) (RR_1609_0 hL) (by decide +kernel : decode k_R_termOf.2.1 110 = .ok (.getfield 170, 3)) lg_12_170 (RC_0 hL).1) ?_
  refine ai (r_iload_n (pc := 113) (k := 2) (by decide +kernel : decode k_R_termOf.2.1 113 = .ok (.iload_n 3, 1)) rfl rfl) ?_
  refine ai (r_iconst (pc := 114) (by decide +kernel : decode k_R_termOf.2.1 114 = .ok (.iconst 1, 1)) ic_1) ?_
  refine ai (r_isub (pc := 115) (by decide +kernel : decode k_R_termOf.2.1 115 = .ok (.isub, 1))) ?_
  refine ai (r_iload (pc := 116) (k := 4) (by decide +kernel : decode k_R_termOf.2.1 116 = .ok (.iload 5, 2)) rfl) ?_
  refine ai (r_iconst (pc := 118) (by decide +kernel : decode k_R_termOf.2.1 118 = .ok (.iconst 2, 1)) ic_2) ?_
  rcases ite_some h with ⟨c1, h⟩ | ⟨c1, h⟩
  · refine ai (r_icmp_ne_f (pc := 119) 130 (by decide +kernel : decode k_R_termOf.2.1 119 = .ok (.if_icmp .ne (11), 3)) (by decide) c1) ?_
    refine ai (r_iload (pc := 122) (k := 5) (by decide +kernel : decode k_R_termOf.2.1 122 = .ok (.iload 6, 2)) rfl) ?_
    refine ai (r_iload (pc := 124) (k := 6) (by decide +kernel : decode k_R_termOf.2.1 124 = .ok (.iload 7, 2)) rfl) ?_
    refine ai (r_iadd (pc := 126) (by decide +kernel : decode k_R_termOf.2.1 126 = .ok (.iadd, 1))) ?_
    refine ai (r_goto (pc := 127) (tgt := 163) (by decide +kernel : decode k_R_termOf.2.1 127 = .ok (.goto (36), 3)) (by decide)) ?_
    exact (ai (r_sub [0, 1, 2, 3] rfl) (R_termOf_163_run hk10 hL h))
  · refine ai (r_icmp_ne_t (pc := 119) (tgt := 130) (by decide +kernel : decode k_R_termOf.2.1 119 = .ok (.if_icmp .ne (11), 3)) (by decide) c1) ?_
    refine ai (r_iload (pc := 130) (k := 4) (by decide +kernel : decode k_R_termOf.2.1 130 = .ok (.iload 5, 2)) rfl) ?_
    refine ai (r_iconst (pc := 132) (by decide +kernel : decode k_R_termOf.2.1 132 = .ok (.iconst 3, 1)) ic_3) ?_
    rcases ite_some h with ⟨c2, h⟩ | ⟨c2, h⟩
    · refine ai (r_icmp_ne_f (pc := 133) 144 (by decide +kernel : decode k_R_termOf.2.1 133 = .ok (.if_icmp .ne (11), 3)) (by decide) c2) ?_
      refine ai (r_iload (pc := 136) (k := 5) (by decide +kernel : decode k_R_termOf.2.1 136 = .ok (.iload 6, 2)) rfl) ?_
      refine ai (r_iload (pc := 138) (k := 6) (by decide +kernel : decode k_R_termOf.2.1 138 = .ok (.iload 7, 2)) rfl) ?_
      refine ai (r_isub (pc := 140) (by decide +kernel : decode k_R_termOf.2.1 140 = .ok (.isub, 1))) ?_
      refine ai (r_goto (pc := 141) (tgt := 163) (by decide +kernel : decode k_R_termOf.2.1 141 = .ok (.goto (22), 3)) (by decide)) ?_
      exact (ai (r_sub [0, 1, 2, 3] rfl) (R_termOf_163_run hk10 hL h))
    · refine ai (r_icmp_ne_t (pc := 133) (tgt := 144) (by decide +kernel : decode k_R_termOf.2.1 133 = .ok (.if_icmp .ne (11), 3)) (by decide) c2) ?_
      refine ai (r_iload (pc := 144) (k := 4) (by decide +kernel : decode k_R_termOf.2.1 144 = .ok (.iload 5, 2)) rfl) ?_
      refine ai (r_iconst (pc := 146) (by decide +kernel : decode k_R_termOf.2.1 146 = .ok (.iconst 4, 1)) ic_4) ?_
      rcases ite_some h with ⟨c3, h⟩ | ⟨c3, h⟩
      · refine ai (r_icmp_ne_f (pc := 147) 158 (by decide +kernel : decode k_R_termOf.2.1 147 = .ok (.if_icmp .ne (11), 3)) (by decide) c3) ?_
        refine ai (r_iload (pc := 150) (k := 5) (by decide +kernel : decode k_R_termOf.2.1 150 = .ok (.iload 6, 2)) rfl) ?_
        refine ai (r_iload (pc := 152) (k := 6) (by decide +kernel : decode k_R_termOf.2.1 152 = .ok (.iload 7, 2)) rfl) ?_
        refine ai (r_imul (pc := 154) (by decide +kernel : decode k_R_termOf.2.1 154 = .ok (.imul, 1))) ?_
        refine ai (r_goto (pc := 155) (tgt := 163) (by decide +kernel : decode k_R_termOf.2.1 155 = .ok (.goto (8), 3)) (by decide)) ?_
        exact (ai (r_sub [0, 1, 2, 3] rfl) (R_termOf_163_run hk10 hL h))
      · refine ai (r_icmp_ne_t (pc := 147) (tgt := 158) (by decide +kernel : decode k_R_termOf.2.1 147 = .ok (.if_icmp .ne (11), 3)) (by decide) c3) ?_
        refine ai (r_iload (pc := 158) (k := 5) (by decide +kernel : decode k_R_termOf.2.1 158 = .ok (.iload 6, 2)) rfl) ?_
        refine ai (r_iload (pc := 160) (k := 6) (by decide +kernel : decode k_R_termOf.2.1 160 = .ok (.iload 7, 2)) rfl) ?_
        obtain ⟨g4, h⟩ := gn_some h
        refine ai (r_idiv (pc := 162) (by decide +kernel : decode k_R_termOf.2.1 162 = .ok (.idiv, 1)) g4) ?_
        exact (ai (r_sub [0, 1, 2, 3] rfl) (R_termOf_163_run hk10 hL h))
set_option maxRecDepth 100000 in
set_option maxHeartbeats 4000000 in
theorem R_termOf_170_run {m m' : Mem} {r : Int32} (hL : RL m) (h : R_termOf_170 m = some (r, m')) : Run k_R_termOf 170 [(0, .ref 0)] [] m (some (.int r)) m' ∧ RL m' := by
  unfold R_termOf_170 at h
  refine ai (p_aload_n (pc := 170) (k := 0) (by decide +kernel : decode k_R_termOf.2.1 170 = .ok (.aload_n 0, 1)) rfl rfl) ?_
  refine ai (p_getr (pc := 171) (RR_1609_0 hL) (by decide +kernel : decode k_R_termOf.2.1 171 = .ok (.getfield 170, 3)) lg_12_170 (RC_0 hL).1) ?_
  refine ai (r_iconst (pc := 174) (by decide +kernel : decode k_R_termOf.2.1 174 = .ok (.iconst 0, 1)) ic_0) ?_
  obtain ⟨g1, h⟩ := gd_some h
  refine ai (p_iald (pc := 175) (by decide +kernel : decode k_R_termOf.2.1 175 = .ok (.iaload, 1)) (RC_51 hL).1 (RC_51 hL).2 g1) ?_
  cases h
  exact ⟨r_iret rfl (by decide +kernel : decode k_R_termOf.2.1 176 = .ok (.ireturn, 1)), hL⟩
set_option maxRecDepth 100000 in
set_option maxHeartbeats 4000000 in
theorem R_termOf_10_run {n : Nat} {x2 : Int32} {x3 : Int32} {x4 : Int32} {m m' : Mem} {r : Int32} (hL : RL m) (h : R_termOf_10 n x2 x3 x4 m = some (r, m')) : Run k_R_termOf 10 [(0, .ref 0), (2, .int x2), (3, .int x3), (4, .int x4)] [] m (some (.int r)) m' ∧ RL m' := by
  induction n generalizing x2 x3 x4 m r m' with
  | zero => exact absurd h (by simp [R_termOf_10])
  | succ n ih =>
    rw [R_termOf_10.eq_2] at h
    refine ai (r_iload (pc := 10) (k := 3) (by decide +kernel : decode k_R_termOf.2.1 10 = .ok (.iload 4, 2)) rfl) ?_
    refine ai (r_iload_n (pc := 12) (k := 1) (by decide +kernel : decode k_R_termOf.2.1 12 = .ok (.iload_n 2, 1)) rfl rfl) ?_
    rcases ite_some h with ⟨c1, h⟩ | ⟨c1, h⟩
    · refine ai (r_icmp_ge_t (pc := 13) (tgt := 170) (by decide +kernel : decode k_R_termOf.2.1 13 = .ok (.if_icmp .ge (157), 3)) (by decide) c1) ?_
      exact (ai (r_sub [0] rfl) (R_termOf_170_run hL h))
    · refine ai (r_icmp_ge_f (pc := 13) 170 (by decide +kernel : decode k_R_termOf.2.1 13 = .ok (.if_icmp .ge (157), 3)) (by decide) c1) ?_
      refine ai (p_aload_n (pc := 16) (k := 0) (by decide +kernel : decode k_R_termOf.2.1 16 = .ok (.aload_n 0, 1)) rfl rfl) ?_
      refine ai (p_getr (pc := 17) (RR_1582_0 hL) (by decide +kernel : decode k_R_termOf.2.1 17 = .ok (.getfield 116, 3)) lg_12_116 (RC_0 hL).1) ?_
      refine ai (r_iload (pc := 20) (k := 3) (by decide +kernel : decode k_R_termOf.2.1 20 = .ok (.iload 4, 2)) rfl) ?_
      obtain ⟨g2, h⟩ := gd_some h
      refine ai (p_iald (pc := 22) (by decide +kernel : decode k_R_termOf.2.1 22 = .ok (.iaload, 1)) (RC_33 hL).1 (RC_33 hL).2 g2) ?_
      obtain ⟨v3, hv3, h⟩ := vb_some h
      refine ai (e_istore (pc := 23) hv3 (by decide +kernel : decode k_R_termOf.2.1 23 = .ok (.istore 5, 2)) (by decide) rfl) ?_
      refine ai (r_iload (pc := 25) (k := 0) (by decide +kernel : decode k_R_termOf.2.1 25 = .ok (.iload 5, 2)) rfl) ?_
      refine ai (r_iconst (pc := 27) (by decide +kernel : decode k_R_termOf.2.1 27 = .ok (.iconst 2, 1)) ic_2) ?_
      rcases ite_some h with ⟨c4, h⟩ | ⟨c4, h⟩
      · refine ai (r_icmp_ge_t (pc := 28) (tgt := 70) (by decide +kernel : decode k_R_termOf.2.1 28 = .ok (.if_icmp .ge (42), 3)) (by decide) c4) ?_
        obtain ⟨v5, hv5, h⟩ := vb_some h
        refine ai (e_iinc (pc := 70) (k := 3) hv5 ic_m1 (by decide +kernel : decode k_R_termOf.2.1 70 = .ok (.iinc 3 (-1), 3)) rfl (by decide) rfl) ?_
        refine ai (p_aload_n (pc := 73) (k := 2) (by decide +kernel : decode k_R_termOf.2.1 73 = .ok (.aload_n 0, 1)) rfl rfl) ?_
        refine ai (p_getr (pc := 74) (RR_1609_0 hL) (by decide +kernel : decode k_R_termOf.2.1 74 = .ok (.getfield 170, 3)) lg_12_170 (RC_0 hL).1) ?_
        refine ai (r_iload_n (pc := 77) (k := 0) (by decide +kernel : decode k_R_termOf.2.1 77 = .ok (.iload_n 3, 1)) rfl rfl) ?_
        refine ai (r_iconst (pc := 78) (by decide +kernel : decode k_R_termOf.2.1 78 = .ok (.iconst 1, 1)) ic_1) ?_
        refine ai (r_isub (pc := 79) (by decide +kernel : decode k_R_termOf.2.1 79 = .ok (.isub, 1))) ?_
        obtain ⟨g6, h⟩ := gd_some h
        refine ai (p_iald (pc := 80) (by decide +kernel : decode k_R_termOf.2.1 80 = .ok (.iaload, 1)) (RC_51 hL).1 (RC_51 hL).2 g6) ?_
        obtain ⟨v7, hv7, h⟩ := vb_some h
        refine ai (e_istore (pc := 81) hv7 (by decide +kernel : decode k_R_termOf.2.1 81 = .ok (.istore 6, 2)) (by decide) rfl) ?_
        refine ai (p_aload_n (pc := 83) (k := 3) (by decide +kernel : decode k_R_termOf.2.1 83 = .ok (.aload_n 0, 1)) rfl rfl) ?_
        refine ai (p_getr (pc := 84) (RR_1609_0 hL) (by decide +kernel : decode k_R_termOf.2.1 84 = .ok (.getfield 170, 3)) lg_12_170 (RC_0 hL).1) ?_
        refine ai (r_iload_n (pc := 87) (k := 1) (by decide +kernel : decode k_R_termOf.2.1 87 = .ok (.iload_n 3, 1)) rfl rfl) ?_
        obtain ⟨g8, h⟩ := gd_some h
        refine ai (p_iald (pc := 88) (by decide +kernel : decode k_R_termOf.2.1 88 = .ok (.iaload, 1)) (RC_51 hL).1 (RC_51 hL).2 g8) ?_
        obtain ⟨v9, hv9, h⟩ := vb_some h
        refine ai (e_istore (pc := 89) hv9 (by decide +kernel : decode k_R_termOf.2.1 89 = .ok (.istore 7, 2)) (by decide) rfl) ?_
        refine ai (r_iload (pc := 91) (k := 3) (by decide +kernel : decode k_R_termOf.2.1 91 = .ok (.iload 5, 2)) rfl) ?_
        refine ai (r_iconst (pc := 93) (by decide +kernel : decode k_R_termOf.2.1 93 = .ok (.iconst 5, 1)) ic_5) ?_
        rcases ite_some h with ⟨c10, h⟩ | ⟨c10, h⟩
        · refine ai (r_icmp_ne_f (pc := 94) 109 (by decide +kernel : decode k_R_termOf.2.1 94 = .ok (.if_icmp .ne (15), 3)) (by decide) c10) ?_
          refine ai (r_iload (pc := 97) (k := 0) (by decide +kernel : decode k_R_termOf.2.1 97 = .ok (.iload 7, 2)) rfl) ?_
          rcases ite_some h with ⟨c11, h⟩ | ⟨c11, h⟩
          · refine ai (r_if_ne_f (pc := 99) 109 (by decide +kernel : decode k_R_termOf.2.1 99 = .ok (.ifCond .ne (10), 3)) (by decide) c11) ?_
            exact (ai (r_sub [4] rfl) (R_termOf_102_run hL h))
          · refine ai (r_if_ne_t (pc := 99) (tgt := 109) (by decide +kernel : decode k_R_termOf.2.1 99 = .ok (.ifCond .ne (10), 3)) (by decide) c11) ?_
            exact (ai (r_sub [4, 5, 2, 6, 3, 1, 0] rfl) (R_termOf_109_run (fun _ _ _ _ _ _ q1 q3 => ih q1 q3) hL h))
        · refine ai (r_icmp_ne_t (pc := 94) (tgt := 109) (by decide +kernel : decode k_R_termOf.2.1 94 = .ok (.if_icmp .ne (15), 3)) (by decide) c10) ?_
          exact (ai (r_sub [4, 5, 2, 6, 3, 1, 0] rfl) (R_termOf_109_run (fun _ _ _ _ _ _ q1 q3 => ih q1 q3) hL h))
      · refine ai (r_icmp_ge_f (pc := 28) 70 (by decide +kernel : decode k_R_termOf.2.1 28 = .ok (.if_icmp .ge (42), 3)) (by decide) c4) ?_
        refine ai (p_aload_n (pc := 31) (k := 1) (by decide +kernel : decode k_R_termOf.2.1 31 = .ok (.aload_n 0, 1)) rfl rfl) ?_
        refine ai (p_getr (pc := 32) (RR_1609_0 hL) (by decide +kernel : decode k_R_termOf.2.1 32 = .ok (.getfield 170, 3)) lg_12_170 (RC_0 hL).1) ?_
        refine ai (r_iload_n (pc := 35) (k := 3) (by decide +kernel : decode k_R_termOf.2.1 35 = .ok (.iload_n 3, 1)) rfl rfl) ?_
        refine ai (r_iload (pc := 36) (k := 0) (by decide +kernel : decode k_R_termOf.2.1 36 = .ok (.iload 5, 2)) rfl) ?_
        rcases ite_some h with ⟨c12, h⟩ | ⟨c12, h⟩
        · refine ai (r_if_ne_f (pc := 38) 51 (by decide +kernel : decode k_R_termOf.2.1 38 = .ok (.ifCond .ne (13), 3)) (by decide) c12) ?_
          refine ai (p_aload_n (pc := 41) (k := 1) (by decide +kernel : decode k_R_termOf.2.1 41 = .ok (.aload_n 0, 1)) rfl rfl) ?_
          refine ai (p_getr (pc := 42) (RR_1583_0 hL) (by decide +kernel : decode k_R_termOf.2.1 42 = .ok (.getfield 119, 3)) lg_12_119 (RC_0 hL).1) ?_
          refine ai (r_iload (pc := 45) (k := 4) (by decide +kernel : decode k_R_termOf.2.1 45 = .ok (.iload 4, 2)) rfl) ?_
          obtain ⟨g13, h⟩ := gd_some h
          refine ai (p_iald (pc := 47) (by decide +kernel : decode k_R_termOf.2.1 47 = .ok (.iaload, 1)) (RC_34 hL).1 (RC_34 hL).2 g13) ?_
          refine ai (r_goto (pc := 48) (tgt := 63) (by decide +kernel : decode k_R_termOf.2.1 48 = .ok (.goto (15), 3)) (by decide)) ?_
          exact (ai (r_sub [1, 2, 3, 4] rfl) (R_termOf_63_run (fun _ _ _ _ _ _ q1 q3 => ih q1 q3) hL h))
        · refine ai (r_if_ne_t (pc := 38) (tgt := 51) (by decide +kernel : decode k_R_termOf.2.1 38 = .ok (.ifCond .ne (13), 3)) (by decide) c12) ?_
          refine ai (p_aload_n (pc := 51) (k := 1) (by decide +kernel : decode k_R_termOf.2.1 51 = .ok (.aload_n 0, 1)) rfl rfl) ?_
          refine ai (p_getr (pc := 52) (RR_1608_0 hL) (by decide +kernel : decode k_R_termOf.2.1 52 = .ok (.getfield 167, 3)) lg_12_167 (RC_0 hL).1) ?_
          refine ai (p_aload_n (pc := 55) (k := 1) (by decide +kernel : decode k_R_termOf.2.1 55 = .ok (.aload_n 0, 1)) rfl rfl) ?_
          refine ai (p_getr (pc := 56) (RR_1583_0 hL) (by decide +kernel : decode k_R_termOf.2.1 56 = .ok (.getfield 119, 3)) lg_12_119 (RC_0 hL).1) ?_
          refine ai (r_iload (pc := 59) (k := 4) (by decide +kernel : decode k_R_termOf.2.1 59 = .ok (.iload 4, 2)) rfl) ?_
          obtain ⟨g14, h⟩ := gd_some h
          refine ai (p_iald (pc := 61) (by decide +kernel : decode k_R_termOf.2.1 61 = .ok (.iaload, 1)) (RC_34 hL).1 (RC_34 hL).2 g14) ?_
          obtain ⟨g15, h⟩ := gd_some h
          refine ai (p_iald (pc := 62) (by decide +kernel : decode k_R_termOf.2.1 62 = .ok (.iaload, 1)) (RC_50 hL).1 (RC_50 hL).2 g15) ?_
          exact (ai (r_sub [1, 2, 3, 4] rfl) (R_termOf_63_run (fun _ _ _ _ _ _ q1 q3 => ih q1 q3) hL h))
set_option maxRecDepth 100000 in
set_option maxHeartbeats 4000000 in
theorem R_termOf_run {x1 : Int32} {x2 : Int32} {m m' : Mem} {r : Int32} (hL : RL m) (h : R_termOf x1 x2 m = some (r, m')) : Run k_R_termOf 0 [(0, .ref 0), (1, .int x1), (2, .int x2)] [] m (some (.int r)) m' ∧ RL m' := by
  unfold R_termOf at h
  refine ai (r_iconst (pc := 0) (by decide +kernel : decode k_R_termOf.2.1 0 = .ok (.iconst 0, 1)) ic_0) ?_
  refine ai (e_istore_n (pc := 1) rfl (by decide +kernel : decode k_R_termOf.2.1 1 = .ok (.istore_n 3, 1)) rfl (by decide) rfl) ?_
  refine ai (p_aload_n (pc := 2) (k := 1) (by decide +kernel : decode k_R_termOf.2.1 2 = .ok (.aload_n 0, 1)) rfl rfl) ?_
  refine ai (r_iconst (pc := 3) (by decide +kernel : decode k_R_termOf.2.1 3 = .ok (.iconst 0, 1)) ic_0) ?_
  have c1 := (RC_0 hL).1
  obtain ⟨m2, hm2, h⟩ := vb_some h
  have hL : RL m2 := by rw [hm2]; exact hL
  refine ai (p_putZ (pc := 4) hm2 (by decide) (by decide +kernel : decode k_R_termOf.2.1 4 = .ok (.putfield 464, 3)) lp_12_464 c1) ?_
  refine ai (r_iload_n (pc := 7) (k := 2) (by decide +kernel : decode k_R_termOf.2.1 7 = .ok (.iload_n 1, 1)) rfl rfl) ?_
  refine ai (e_istore (pc := 8) rfl (by decide +kernel : decode k_R_termOf.2.1 8 = .ok (.istore 4, 2)) (by decide) rfl) ?_
  exact (ai (r_sub [2, 4, 1, 0] rfl) (R_termOf_10_run hL h))
set_option maxRecDepth 100000 in
set_option maxHeartbeats 4000000 in
theorem R_isAmbit_119_run {k9 : Int32 → Int32 → Int32 → Int32 → Int32 → Int32 → Int32 → Mem → Option (Int32 × Mem)} {x1 : Int32} {x2 : Int32} {x3 : Int32} {x4 : Int32} {x5 : Int32} {x6 : Int32} {x7 : Int32} {m m' : Mem} {r : Int32} (hk9 : ∀ (x1 : Int32) (x2 : Int32) (x3 : Int32) (x4 : Int32) (x5 : Int32) (x6 : Int32) (x7 : Int32) (m : Mem) (r : Int32) (m' : Mem), RL m → k9 x1 x2 x3 x4 x5 x6 x7 m = some (r, m') → Run k_R_isAmbit 9 [(0, .ref 0), (1, .int x1), (2, .int x2), (3, .int x3), (4, .int x4), (5, .int x5), (6, .int x6), (7, .int x7)] [] m (some (.int r)) m' ∧ RL m') (hL : RL m) (h : R_isAmbit_119 k9 x1 x2 x3 x4 x5 x6 x7 m = some (r, m')) : Run k_R_isAmbit 119 [(0, .ref 0), (1, .int x1), (2, .int x2), (3, .int x3), (4, .int x4), (5, .int x5), (6, .int x6), (7, .int x7)] [] m (some (.int r)) m' ∧ RL m' := by
  unfold R_isAmbit_119 at h
  obtain ⟨v1, hv1, h⟩ := vb_some h
  refine ai (e_iinc (pc := 119) (k := 7) hv1 ic_1 (by decide +kernel : decode k_R_isAmbit.2.1 119 = .ok (.iinc 7 (1), 3)) rfl (by decide) rfl) ?_
  refine ai (r_goto (pc := 122) (tgt := 9) (by decide +kernel : decode k_R_isAmbit.2.1 122 = .ok (.goto (-113), 3)) (by decide)) ?_
  exact (ai (r_sub [1, 2, 3, 4, 5, 6, 7, 0] rfl) (hk9 x1 x2 x3 x4 x5 x6 v1 m _ _ hL h))
set_option maxRecDepth 100000 in
set_option maxHeartbeats 4000000 in
theorem R_isAmbit_51_run {k9 : Int32 → Int32 → Int32 → Int32 → Int32 → Int32 → Int32 → Mem → Option (Int32 × Mem)} {x1 : Int32} {x2 : Int32} {x3 : Int32} {x4 : Int32} {x5 : Int32} {x6 : Int32} {x7 : Int32} {m m' : Mem} {r : Int32} (hk9 : ∀ (x1 : Int32) (x2 : Int32) (x3 : Int32) (x4 : Int32) (x5 : Int32) (x6 : Int32) (x7 : Int32) (m : Mem) (r : Int32) (m' : Mem), RL m → k9 x1 x2 x3 x4 x5 x6 x7 m = some (r, m') → Run k_R_isAmbit 9 [(0, .ref 0), (1, .int x1), (2, .int x2), (3, .int x3), (4, .int x4), (5, .int x5), (6, .int x6), (7, .int x7)] [] m (some (.int r)) m' ∧ RL m') (hL : RL m) (h : R_isAmbit_51 k9 x1 x2 x3 x4 x5 x6 x7 m = some (r, m')) : Run k_R_isAmbit 51 [(0, .ref 0), (1, .int x1), (2, .int x2), (3, .int x3), (4, .int x4), (5, .int x5), (6, .int x6), (7, .int x7)] [] m (some (.int r)) m' ∧ RL m' := by
  unfold R_isAmbit_51 at h
  refine ai (p_aload_n (pc := 51) (k := 0) (by decide +kernel : decode k_R_isAmbit.2.1 51 = .ok (.aload_n 0, 1)) rfl rfl) ?_
  refine ai (p_getr (pc := 52) (RR_1603_0 hL) (by decide +kernel : decode k_R_isAmbit.2.1 52 = .ok (.getfield 152, 3)) lg_12_152 (RC_0 hL).1) ?_
  refine ai (r_iload (pc := 55) (k := 7) (by decide +kernel : decode k_R_isAmbit.2.1 55 = .ok (.iload 7, 2)) rfl) ?_
  obtain ⟨g1, h⟩ := gd_some h
  refine ai (p_iald (pc := 57) (by decide +kernel : decode k_R_isAmbit.2.1 57 = .ok (.iaload, 1)) (RC_45 hL).1 (RC_45 hL).2 g1) ?_
  refine ai (p_aload_n (pc := 58) (k := 0) (by decide +kernel : decode k_R_isAmbit.2.1 58 = .ok (.aload_n 0, 1)) rfl rfl) ?_
  refine ai (p_getr (pc := 59) (RR_1559_0 hL) (by decide +kernel : decode k_R_isAmbit.2.1 59 = .ok (.getfield 52, 3)) lg_12_52 (RC_0 hL).1) ?_
  refine ai (r_iload_n (pc := 62) (k := 1) (by decide +kernel : decode k_R_isAmbit.2.1 62 = .ok (.iload_n 1, 1)) rfl rfl) ?_
  obtain ⟨g2, h⟩ := gd_some h
  refine ai (p_iald (pc := 63) (by decide +kernel : decode k_R_isAmbit.2.1 63 = .ok (.iaload, 1)) (RC_12 hL).1 (RC_12 hL).2 g2) ?_
  rcases ite_some h with ⟨c3, h⟩ | ⟨c3, h⟩
  · refine ai (r_icmp_ne_f (pc := 64) 119 (by decide +kernel : decode k_R_isAmbit.2.1 64 = .ok (.if_icmp .ne (55), 3)) (by decide) c3) ?_
    refine ai (p_aload_n (pc := 67) (k := 0) (by decide +kernel : decode k_R_isAmbit.2.1 67 = .ok (.aload_n 0, 1)) rfl rfl) ?_
    refine ai (p_getr (pc := 68) (RR_1604_0 hL) (by decide +kernel : decode k_R_isAmbit.2.1 68 = .ok (.getfield 155, 3)) lg_12_155 (RC_0 hL).1) ?_
    refine ai (r_iload (pc := 71) (k := 7) (by decide +kernel : decode k_R_isAmbit.2.1 71 = .ok (.iload 7, 2)) rfl) ?_
    obtain ⟨g4, h⟩ := gd_some h
    refine ai (p_iald (pc := 73) (by decide +kernel : decode k_R_isAmbit.2.1 73 = .ok (.iaload, 1)) (RC_46 hL).1 (RC_46 hL).2 g4) ?_
    refine ai (p_aload_n (pc := 74) (k := 0) (by decide +kernel : decode k_R_isAmbit.2.1 74 = .ok (.aload_n 0, 1)) rfl rfl) ?_
    refine ai (p_getr (pc := 75) (RR_1563_0 hL) (by decide +kernel : decode k_R_isAmbit.2.1 75 = .ok (.getfield 64, 3)) lg_12_64 (RC_0 hL).1) ?_
    refine ai (r_iload_n (pc := 78) (k := 3) (by decide +kernel : decode k_R_isAmbit.2.1 78 = .ok (.iload_n 3, 1)) rfl rfl) ?_
    obtain ⟨g5, h⟩ := gd_some h
    refine ai (p_iald (pc := 79) (by decide +kernel : decode k_R_isAmbit.2.1 79 = .ok (.iaload, 1)) (RC_16 hL).1 (RC_16 hL).2 g5) ?_
    rcases ite_some h with ⟨c6, h⟩ | ⟨c6, h⟩
    · refine ai (r_icmp_eq_t (pc := 80) (tgt := 86) (by decide +kernel : decode k_R_isAmbit.2.1 80 = .ok (.if_icmp .eq (6), 3)) (by decide) c6) ?_
      refine ai (p_aload_n (pc := 86) (k := 0) (by decide +kernel : decode k_R_isAmbit.2.1 86 = .ok (.aload_n 0, 1)) rfl rfl) ?_
      refine ai (p_getr (pc := 87) (RR_1602_0 hL) (by decide +kernel : decode k_R_isAmbit.2.1 87 = .ok (.getfield 149, 3)) lg_12_149 (RC_0 hL).1) ?_
      refine ai (r_iload (pc := 90) (k := 7) (by decide +kernel : decode k_R_isAmbit.2.1 90 = .ok (.iload 7, 2)) rfl) ?_
      obtain ⟨g7, h⟩ := gd_some h
      refine ai (p_iald (pc := 92) (by decide +kernel : decode k_R_isAmbit.2.1 92 = .ok (.iaload, 1)) (RC_44 hL).1 (RC_44 hL).2 g7) ?_
      refine ai (r_bipush (pc := 93) (by decide +kernel : decode k_R_isAmbit.2.1 93 = .ok (.bipush (7), 2)) (by decide : _ = (7 : Int32))) ?_
      rcases ite_some h with ⟨c8, h⟩ | ⟨c8, h⟩
      · refine ai (r_icmp_ne_f (pc := 95) 110 (by decide +kernel : decode k_R_isAmbit.2.1 95 = .ok (.if_icmp .ne (15), 3)) (by decide) c8) ?_
        refine ai (p_aload_n (pc := 98) (k := 0) (by decide +kernel : decode k_R_isAmbit.2.1 98 = .ok (.aload_n 0, 1)) rfl rfl) ?_
        refine ai (p_getr (pc := 99) (RR_1606_0 hL) (by decide +kernel : decode k_R_isAmbit.2.1 99 = .ok (.getfield 161, 3)) lg_12_161 (RC_0 hL).1) ?_
        refine ai (r_iload (pc := 102) (k := 7) (by decide +kernel : decode k_R_isAmbit.2.1 102 = .ok (.iload 7, 2)) rfl) ?_
        obtain ⟨g9, h⟩ := gd_some h
        refine ai (p_iald (pc := 104) (by decide +kernel : decode k_R_isAmbit.2.1 104 = .ok (.iaload, 1)) (RC_48 hL).1 (RC_48 hL).2 g9) ?_
        obtain ⟨v10, hv10, h⟩ := vb_some h
        refine ai (e_istore (pc := 105) hv10 (by decide +kernel : decode k_R_isAmbit.2.1 105 = .ok (.istore 5, 2)) (by decide) rfl) ?_
        refine ai (r_goto (pc := 107) (tgt := 119) (by decide +kernel : decode k_R_isAmbit.2.1 107 = .ok (.goto (12), 3)) (by decide)) ?_
        exact (ai (r_sub [1, 2, 3, 4, 5, 0, 6, 7] rfl) (R_isAmbit_119_run hk9 hL h))
      · refine ai (r_icmp_ne_t (pc := 95) (tgt := 110) (by decide +kernel : decode k_R_isAmbit.2.1 95 = .ok (.if_icmp .ne (15), 3)) (by decide) c8) ?_
        refine ai (p_aload_n (pc := 110) (k := 0) (by decide +kernel : decode k_R_isAmbit.2.1 110 = .ok (.aload_n 0, 1)) rfl rfl) ?_
        refine ai (p_getr (pc := 111) (RR_1606_0 hL) (by decide +kernel : decode k_R_isAmbit.2.1 111 = .ok (.getfield 161, 3)) lg_12_161 (RC_0 hL).1) ?_
        refine ai (r_iload (pc := 114) (k := 7) (by decide +kernel : decode k_R_isAmbit.2.1 114 = .ok (.iload 7, 2)) rfl) ?_
        obtain ⟨g11, h⟩ := gd_some h
        refine ai (p_iald (pc := 116) (by decide +kernel : decode k_R_isAmbit.2.1 116 = .ok (.iaload, 1)) (RC_48 hL).1 (RC_48 hL).2 g11) ?_
        obtain ⟨v12, hv12, h⟩ := vb_some h
        refine ai (e_istore (pc := 117) hv12 (by decide +kernel : decode k_R_isAmbit.2.1 117 = .ok (.istore 6, 2)) (by decide) rfl) ?_
        exact (ai (r_sub [1, 2, 3, 4, 5, 6, 0, 7] rfl) (R_isAmbit_119_run hk9 hL h))
    · refine ai (r_icmp_eq_f (pc := 80) 86 (by decide +kernel : decode k_R_isAmbit.2.1 80 = .ok (.if_icmp .eq (6), 3)) (by decide) c6) ?_
      refine ai (r_goto (pc := 83) (tgt := 119) (by decide +kernel : decode k_R_isAmbit.2.1 83 = .ok (.goto (36), 3)) (by decide)) ?_
      exact (R_isAmbit_119_run hk9 hL h)
  · refine ai (r_icmp_ne_t (pc := 64) (tgt := 119) (by decide +kernel : decode k_R_isAmbit.2.1 64 = .ok (.if_icmp .ne (55), 3)) (by decide) c3) ?_
    exact (R_isAmbit_119_run hk9 hL h)
set_option maxRecDepth 100000 in
set_option maxHeartbeats 4000000 in
theorem R_isAmbit_173_run {x5 : Int32} {x6 : Int32} {x7 : Int32} {x8 : Int32} {s0 : Int32} {m m' : Mem} {r : Int32} (hL : RL m) (h : R_isAmbit_173 x5 x6 x7 x8 s0 m = some (r, m')) : Run k_R_isAmbit 173 [(5, .int x5), (6, .int x6), (7, .int x7), (8, .int x8)] [.int s0] m (some (.int r)) m' ∧ RL m' := by
  unfold R_isAmbit_173 at h
  refine ai (e_istore (pc := 173) rfl (by decide +kernel : decode k_R_isAmbit.2.1 173 = .ok (.istore 9, 2)) (by decide) rfl) ?_
  refine ai (r_iload (pc := 175) (k := 1) (by decide +kernel : decode k_R_isAmbit.2.1 175 = .ok (.iload 5, 2)) rfl) ?_
  refine ai (r_iconst (pc := 177) (by decide +kernel : decode k_R_isAmbit.2.1 177 = .ok (.iconst (-1), 1)) ic_m1) ?_
  rcases ite_some h with ⟨c1, h⟩ | ⟨c1, h⟩
  · refine ai (r_icmp_eq_t (pc := 178) (tgt := 203) (by decide +kernel : decode k_R_isAmbit.2.1 178 = .ok (.if_icmp .eq (25), 3)) (by decide) c1) ?_
    refine ai (r_iconst (pc := 203) (by decide +kernel : decode k_R_isAmbit.2.1 203 = .ok (.iconst 0, 1)) ic_0) ?_
    cases h
    exact ⟨r_zret (by decide) rfl (by decide +kernel : decode k_R_isAmbit.2.1 204 = .ok (.ireturn, 1)), hL⟩
  · refine ai (r_icmp_eq_f (pc := 178) 203 (by decide +kernel : decode k_R_isAmbit.2.1 178 = .ok (.if_icmp .eq (25), 3)) (by decide) c1) ?_
    refine ai (r_iload (pc := 181) (k := 2) (by decide +kernel : decode k_R_isAmbit.2.1 181 = .ok (.iload 6, 2)) rfl) ?_
    refine ai (r_iconst (pc := 183) (by decide +kernel : decode k_R_isAmbit.2.1 183 = .ok (.iconst (-1), 1)) ic_m1) ?_
    rcases ite_some h with ⟨c2, h⟩ | ⟨c2, h⟩
    · refine ai (r_icmp_eq_t (pc := 184) (tgt := 203) (by decide +kernel : decode k_R_isAmbit.2.1 184 = .ok (.if_icmp .eq (19), 3)) (by decide) c2) ?_
      refine ai (r_iconst (pc := 203) (by decide +kernel : decode k_R_isAmbit.2.1 203 = .ok (.iconst 0, 1)) ic_0) ?_
      cases h
      exact ⟨r_zret (by decide) rfl (by decide +kernel : decode k_R_isAmbit.2.1 204 = .ok (.ireturn, 1)), hL⟩
    · refine ai (r_icmp_eq_f (pc := 184) 203 (by decide +kernel : decode k_R_isAmbit.2.1 184 = .ok (.if_icmp .eq (19), 3)) (by decide) c2) ?_
      refine ai (r_iload (pc := 187) (k := 3) (by decide +kernel : decode k_R_isAmbit.2.1 187 = .ok (.iload 7, 2)) rfl) ?_
      refine ai (r_iload (pc := 189) (k := 4) (by decide +kernel : decode k_R_isAmbit.2.1 189 = .ok (.iload 8, 2)) rfl) ?_
      refine ai (r_iload (pc := 191) (k := 0) (by decide +kernel : decode k_R_isAmbit.2.1 191 = .ok (.iload 9, 2)) rfl) ?_
      obtain ⟨r3, hr3, h⟩ := bp_some h
      refine ai (q_callS (pc := 193) (As := [.int x7, .int x8, .int s0]) (st := []) (st2 := [.int r3]) rfl rfl (by decide +kernel : decode k_R_isAmbit.2.1 193 = .ok (.invokestatic 433, 3)) lc_12_433 mo_R_in ⟨Nat.le_of_ble_eq_true rfl, Nat.le_of_ble_eq_true rfl⟩ (Nat.le_of_ble_eq_true rfl) (Nat.le_of_ble_eq_true rfl) (R_in_run hr3)) ?_
      rcases ite_some h with ⟨c4, h⟩ | ⟨c4, h⟩
      · refine ai (r_if_eq_t (pc := 196) (tgt := 203) (by decide +kernel : decode k_R_isAmbit.2.1 196 = .ok (.ifCond .eq (7), 3)) (by decide) c4) ?_
        refine ai (r_iconst (pc := 203) (by decide +kernel : decode k_R_isAmbit.2.1 203 = .ok (.iconst 0, 1)) ic_0) ?_
        cases h
        exact ⟨r_zret (by decide) rfl (by decide +kernel : decode k_R_isAmbit.2.1 204 = .ok (.ireturn, 1)), hL⟩
      · refine ai (r_if_eq_f (pc := 196) 203 (by decide +kernel : decode k_R_isAmbit.2.1 196 = .ok (.ifCond .eq (7), 3)) (by decide) c4) ?_
        refine ai (r_iconst (pc := 199) (by decide +kernel : decode k_R_isAmbit.2.1 199 = .ok (.iconst 1, 1)) ic_1) ?_
        refine ai (r_goto (pc := 200) (tgt := 204) (by decide +kernel : decode k_R_isAmbit.2.1 200 = .ok (.goto (4), 3)) (by decide)) ?_
        cases h
        exact ⟨r_zret (by decide) rfl (by decide +kernel : decode k_R_isAmbit.2.1 204 = .ok (.ireturn, 1)), hL⟩
set_option maxRecDepth 100000 in
set_option maxHeartbeats 4000000 in
theorem R_isAmbit_157_run {x5 : Int32} {x6 : Int32} {x7 : Int32} {s0 : Int32} {m m' : Mem} {r : Int32} (hL : RL m) (h : R_isAmbit_157 x5 x6 x7 s0 m = some (r, m')) : Run k_R_isAmbit 157 [(5, .int x5), (6, .int x6), (7, .int x7)] [.int s0] m (some (.int r)) m' ∧ RL m' := by
  unfold R_isAmbit_157 at h
  refine ai (e_istore (pc := 157) rfl (by decide +kernel : decode k_R_isAmbit.2.1 157 = .ok (.istore 8, 2)) (by decide) rfl) ?_
  refine ai (r_iload (pc := 159) (k := 1) (by decide +kernel : decode k_R_isAmbit.2.1 159 = .ok (.iload 5, 2)) rfl) ?_
  refine ai (r_iload (pc := 161) (k := 2) (by decide +kernel : decode k_R_isAmbit.2.1 161 = .ok (.iload 6, 2)) rfl) ?_
  rcases ite_some h with ⟨c1, h⟩ | ⟨c1, h⟩
  · refine ai (r_icmp_ge_t (pc := 163) (tgt := 171) (by decide +kernel : decode k_R_isAmbit.2.1 163 = .ok (.if_icmp .ge (8), 3)) (by decide) c1) ?_
    refine ai (r_iload (pc := 171) (k := 1) (by decide +kernel : decode k_R_isAmbit.2.1 171 = .ok (.iload 5, 2)) rfl) ?_
    exact (ai (r_sub [1, 2, 3, 0] rfl) (R_isAmbit_173_run hL h))
  · refine ai (r_icmp_ge_f (pc := 163) 171 (by decide +kernel : decode k_R_isAmbit.2.1 163 = .ok (.if_icmp .ge (8), 3)) (by decide) c1) ?_
    refine ai (r_iload (pc := 166) (k := 2) (by decide +kernel : decode k_R_isAmbit.2.1 166 = .ok (.iload 6, 2)) rfl) ?_
    refine ai (r_goto (pc := 168) (tgt := 173) (by decide +kernel : decode k_R_isAmbit.2.1 168 = .ok (.goto (5), 3)) (by decide)) ?_
    exact (ai (r_sub [1, 2, 3, 0] rfl) (R_isAmbit_173_run hL h))
set_option maxRecDepth 100000 in
set_option maxHeartbeats 4000000 in
theorem R_isAmbit_125_run {x3 : Int32} {x5 : Int32} {x6 : Int32} {m m' : Mem} {r : Int32} (hL : RL m) (h : R_isAmbit_125 x3 x5 x6 m = some (r, m')) : Run k_R_isAmbit 125 [(0, .ref 0), (3, .int x3), (5, .int x5), (6, .int x6)] [] m (some (.int r)) m' ∧ RL m' := by
  unfold R_isAmbit_125 at h
  refine ai (p_aload_n (pc := 125) (k := 0) (by decide +kernel : decode k_R_isAmbit.2.1 125 = .ok (.aload_n 0, 1)) rfl rfl) ?_
  refine ai (p_aload_n (pc := 126) (k := 0) (by decide +kernel : decode k_R_isAmbit.2.1 126 = .ok (.aload_n 0, 1)) rfl rfl) ?_
  refine ai (p_getr (pc := 127) (RR_1568_0 hL) (by decide +kernel : decode k_R_isAmbit.2.1 127 = .ok (.getfield 80, 3)) lg_12_80 (RC_0 hL).1) ?_
  refine ai (r_iload_n (pc := 130) (k := 1) (by decide +kernel : decode k_R_isAmbit.2.1 130 = .ok (.iload_n 3, 1)) rfl rfl) ?_
  obtain ⟨g1, h⟩ := gd_some h
  refine ai (p_iald (pc := 131) (by decide +kernel : decode k_R_isAmbit.2.1 131 = .ok (.iaload, 1)) (RC_21 hL).1 (RC_21 hL).2 g1) ?_
  refine ai (p_aload_n (pc := 132) (k := 0) (by decide +kernel : decode k_R_isAmbit.2.1 132 = .ok (.aload_n 0, 1)) rfl rfl) ?_
  refine ai (p_getr (pc := 133) (RR_1569_0 hL) (by decide +kernel : decode k_R_isAmbit.2.1 133 = .ok (.getfield 83, 3)) lg_12_83 (RC_0 hL).1) ?_
  refine ai (r_iload_n (pc := 136) (k := 1) (by decide +kernel : decode k_R_isAmbit.2.1 136 = .ok (.iload_n 3, 1)) rfl rfl) ?_
  obtain ⟨g2, h⟩ := gd_some h
  refine ai (p_iald (pc := 137) (by decide +kernel : decode k_R_isAmbit.2.1 137 = .ok (.iaload, 1)) (RC_22 hL).1 (RC_22 hL).2 g2) ?_
  obtain ⟨r3, m4, hr3, h⟩ := bn_some h
  have q5 := R_termOf_run hL hr3
  have c6 := (RC_0 hL).1
  have hL := q5.2
  refine ai (q_callV (pc := 138) (As := [.int (aI m 21 (ix x3)), .int (aI m 22 (ix x3))]) (st := []) (st2 := [.int r3]) (b := 0) rfl rfl (by decide +kernel : decode k_R_isAmbit.2.1 138 = .ok (.invokevirtual 471, 3)) lc_12_471 mo_R_termOf ⟨Nat.le_of_ble_eq_true rfl, Nat.le_of_ble_eq_true rfl⟩ (Nat.le_of_ble_eq_true rfl) (Nat.le_of_ble_eq_true rfl) c6 q5.1) ?_
  refine ai (e_istore (pc := 141) rfl (by decide +kernel : decode k_R_isAmbit.2.1 141 = .ok (.istore 7, 2)) (by decide) rfl) ?_
  refine ai (r_iload (pc := 143) (k := 3) (by decide +kernel : decode k_R_isAmbit.2.1 143 = .ok (.iload 5, 2)) rfl) ?_
  refine ai (r_iload (pc := 145) (k := 4) (by decide +kernel : decode k_R_isAmbit.2.1 145 = .ok (.iload 6, 2)) rfl) ?_
  rcases ite_some h with ⟨c7, h⟩ | ⟨c7, h⟩
  · refine ai (r_icmp_ge_t (pc := 147) (tgt := 155) (by decide +kernel : decode k_R_isAmbit.2.1 147 = .ok (.if_icmp .ge (8), 3)) (by decide) c7) ?_
    refine ai (r_iload (pc := 155) (k := 4) (by decide +kernel : decode k_R_isAmbit.2.1 155 = .ok (.iload 6, 2)) rfl) ?_
    exact (ai (r_sub [3, 4, 0] rfl) (R_isAmbit_157_run hL h))
  · refine ai (r_icmp_ge_f (pc := 147) 155 (by decide +kernel : decode k_R_isAmbit.2.1 147 = .ok (.if_icmp .ge (8), 3)) (by decide) c7) ?_
    refine ai (r_iload (pc := 150) (k := 3) (by decide +kernel : decode k_R_isAmbit.2.1 150 = .ok (.iload 5, 2)) rfl) ?_
    refine ai (r_goto (pc := 152) (tgt := 157) (by decide +kernel : decode k_R_isAmbit.2.1 152 = .ok (.goto (5), 3)) (by decide)) ?_
    exact (ai (r_sub [3, 4, 0] rfl) (R_isAmbit_157_run hL h))
set_option maxRecDepth 100000 in
set_option maxHeartbeats 4000000 in
theorem R_isAmbit_9_run {n : Nat} {x1 : Int32} {x2 : Int32} {x3 : Int32} {x4 : Int32} {x5 : Int32} {x6 : Int32} {x7 : Int32} {m m' : Mem} {r : Int32} (hL : RL m) (h : R_isAmbit_9 n x1 x2 x3 x4 x5 x6 x7 m = some (r, m')) : Run k_R_isAmbit 9 [(0, .ref 0), (1, .int x1), (2, .int x2), (3, .int x3), (4, .int x4), (5, .int x5), (6, .int x6), (7, .int x7)] [] m (some (.int r)) m' ∧ RL m' := by
  induction n generalizing x1 x2 x3 x4 x5 x6 x7 m r m' with
  | zero => exact absurd h (by simp [R_isAmbit_9])
  | succ n ih =>
    rw [R_isAmbit_9.eq_2] at h
    refine ai (r_iload (pc := 9) (k := 7) (by decide +kernel : decode k_R_isAmbit.2.1 9 = .ok (.iload 7, 2)) rfl) ?_
    refine ai (p_aload_n (pc := 11) (k := 0) (by decide +kernel : decode k_R_isAmbit.2.1 11 = .ok (.aload_n 0, 1)) rfl rfl) ?_
    refine ai (p_getr (pc := 12) (RR_1559_0 hL) (by decide +kernel : decode k_R_isAmbit.2.1 12 = .ok (.getfield 52, 3)) lg_12_52 (RC_0 hL).1) ?_
    refine ai (r_iload_n (pc := 15) (k := 2) (by decide +kernel : decode k_R_isAmbit.2.1 15 = .ok (.iload_n 2, 1)) rfl rfl) ?_
    obtain ⟨g1, h⟩ := gd_some h
    refine ai (p_iald (pc := 16) (by decide +kernel : decode k_R_isAmbit.2.1 16 = .ok (.iaload, 1)) (RC_12 hL).1 (RC_12 hL).2 g1) ?_
    rcases ite_some h with ⟨c2, h⟩ | ⟨c2, h⟩
    · refine ai (r_icmp_ge_t (pc := 17) (tgt := 125) (by decide +kernel : decode k_R_isAmbit.2.1 17 = .ok (.if_icmp .ge (108), 3)) (by decide) c2) ?_
      exact (ai (r_sub [0, 3, 5, 6] rfl) (R_isAmbit_125_run hL h))
    · refine ai (r_icmp_ge_f (pc := 17) 125 (by decide +kernel : decode k_R_isAmbit.2.1 17 = .ok (.if_icmp .ge (108), 3)) (by decide) c2) ?_
      refine ai (r_iload (pc := 20) (k := 7) (by decide +kernel : decode k_R_isAmbit.2.1 20 = .ok (.iload 7, 2)) rfl) ?_
      refine ai (r_iload (pc := 22) (k := 4) (by decide +kernel : decode k_R_isAmbit.2.1 22 = .ok (.iload 4, 2)) rfl) ?_
      rcases ite_some h with ⟨c3, h⟩ | ⟨c3, h⟩
      · refine ai (r_icmp_ge_t (pc := 24) (tgt := 125) (by decide +kernel : decode k_R_isAmbit.2.1 24 = .ok (.if_icmp .ge (101), 3)) (by decide) c3) ?_
        exact (ai (r_sub [0, 3, 5, 6] rfl) (R_isAmbit_125_run hL h))
      · refine ai (r_icmp_ge_f (pc := 24) 125 (by decide +kernel : decode k_R_isAmbit.2.1 24 = .ok (.if_icmp .ge (101), 3)) (by decide) c3) ?_
        refine ai (p_aload_n (pc := 27) (k := 0) (by decide +kernel : decode k_R_isAmbit.2.1 27 = .ok (.aload_n 0, 1)) rfl rfl) ?_
        refine ai (p_getr (pc := 28) (RR_1602_0 hL) (by decide +kernel : decode k_R_isAmbit.2.1 28 = .ok (.getfield 149, 3)) lg_12_149 (RC_0 hL).1) ?_
        refine ai (r_iload (pc := 31) (k := 7) (by decide +kernel : decode k_R_isAmbit.2.1 31 = .ok (.iload 7, 2)) rfl) ?_
        obtain ⟨g4, h⟩ := gd_some h
        refine ai (p_iald (pc := 33) (by decide +kernel : decode k_R_isAmbit.2.1 33 = .ok (.iaload, 1)) (RC_44 hL).1 (RC_44 hL).2 g4) ?_
        refine ai (r_bipush (pc := 34) (by decide +kernel : decode k_R_isAmbit.2.1 34 = .ok (.bipush (7), 2)) (by decide : _ = (7 : Int32))) ?_
        rcases ite_some h with ⟨c5, h⟩ | ⟨c5, h⟩
        · refine ai (r_icmp_eq_t (pc := 36) (tgt := 51) (by decide +kernel : decode k_R_isAmbit.2.1 36 = .ok (.if_icmp .eq (15), 3)) (by decide) c5) ?_
          exact (R_isAmbit_51_run (fun _ _ _ _ _ _ _ _ _ _ q1 q3 => ih q1 q3) hL h)
        · refine ai (r_icmp_eq_f (pc := 36) 51 (by decide +kernel : decode k_R_isAmbit.2.1 36 = .ok (.if_icmp .eq (15), 3)) (by decide) c5) ?_
          refine ai (p_aload_n (pc := 39) (k := 0) (by decide +kernel : decode k_R_isAmbit.2.1 39 = .ok (.aload_n 0, 1)) rfl rfl) ?_
          refine ai (p_getr (pc := 40) (RR_1602_0 hL) (by decide +kernel : decode k_R_isAmbit.2.1 40 = .ok (.getfield 149, 3)) lg_12_149 (RC_0 hL).1) ?_
          refine ai (r_iload (pc := 43) (k := 7) (by decide +kernel : decode k_R_isAmbit.2.1 43 = .ok (.iload 7, 2)) rfl) ?_
          obtain ⟨g6, h⟩ := gd_some h
          refine ai (p_iald (pc := 45) (by decide +kernel : decode k_R_isAmbit.2.1 45 = .ok (.iaload, 1)) (RC_44 hL).1 (RC_44 hL).2 g6) ?_
          refine ai (r_bipush (pc := 46) (by decide +kernel : decode k_R_isAmbit.2.1 46 = .ok (.bipush (8), 2)) (by decide : _ = (8 : Int32))) ?_
          rcases ite_some h with ⟨c7, h⟩ | ⟨c7, h⟩
          · refine ai (r_icmp_ne_f (pc := 48) 119 (by decide +kernel : decode k_R_isAmbit.2.1 48 = .ok (.if_icmp .ne (71), 3)) (by decide) c7) ?_
            exact (R_isAmbit_51_run (fun _ _ _ _ _ _ _ _ _ _ q1 q3 => ih q1 q3) hL h)
          · refine ai (r_icmp_ne_t (pc := 48) (tgt := 119) (by decide +kernel : decode k_R_isAmbit.2.1 48 = .ok (.if_icmp .ne (71), 3)) (by decide) c7) ?_
            exact (R_isAmbit_119_run (fun _ _ _ _ _ _ _ _ _ _ q1 q3 => ih q1 q3) hL h)
set_option maxRecDepth 100000 in
set_option maxHeartbeats 4000000 in
theorem R_isAmbit_run {x1 : Int32} {x2 : Int32} {x3 : Int32} {x4 : Int32} {m m' : Mem} {r : Int32} (hL : RL m) (h : R_isAmbit x1 x2 x3 x4 m = some (r, m')) : Run k_R_isAmbit 0 [(0, .ref 0), (1, .int x1), (2, .int x2), (3, .int x3), (4, .int x4)] [] m (some (.int r)) m' ∧ RL m' := by
  unfold R_isAmbit at h
  refine ai (r_iconst (pc := 0) (by decide +kernel : decode k_R_isAmbit.2.1 0 = .ok (.iconst (-1), 1)) ic_m1) ?_
  refine ai (e_istore (pc := 1) rfl (by decide +kernel : decode k_R_isAmbit.2.1 1 = .ok (.istore 5, 2)) (by decide) rfl) ?_
  refine ai (r_iconst (pc := 3) (by decide +kernel : decode k_R_isAmbit.2.1 3 = .ok (.iconst (-1), 1)) ic_m1) ?_
  refine ai (e_istore (pc := 4) rfl (by decide +kernel : decode k_R_isAmbit.2.1 4 = .ok (.istore 6, 2)) (by decide) rfl) ?_
  refine ai (r_iconst (pc := 6) (by decide +kernel : decode k_R_isAmbit.2.1 6 = .ok (.iconst 0, 1)) ic_0) ?_
  refine ai (e_istore (pc := 7) rfl (by decide +kernel : decode k_R_isAmbit.2.1 7 = .ok (.istore 7, 2)) (by decide) rfl) ?_
  exact (ai (r_sub [3, 4, 5, 6, 7, 2, 1, 0] rfl) (R_isAmbit_9_run hL h))
set_option maxRecDepth 100000 in
set_option maxHeartbeats 4000000 in
theorem R_adds_260_run {k6 : Int32 → Int32 → Int32 → Int32 → Mem → Option (Unit × Mem)} {x1 : Int32} {x2 : Int32} {x3 : Int32} {x4 : Int32} {m m' : Mem} {r : Unit} (hk6 : ∀ (x1 : Int32) (x2 : Int32) (x3 : Int32) (x4 : Int32) (m : Mem) (r : Unit) (m' : Mem), RL m → k6 x1 x2 x3 x4 m = some (r, m') → Run k_R_adds 6 [(0, .ref 0), (1, .int x1), (2, .int x2), (3, .int x3), (4, .int x4)] [] m none m' ∧ RL m') (hL : RL m) (h : R_adds_260 k6 x1 x2 x3 x4 m = some (r, m')) : Run k_R_adds 260 [(0, .ref 0), (1, .int x1), (2, .int x2), (3, .int x3), (4, .int x4)] [] m none m' ∧ RL m' := by
  unfold R_adds_260 at h
  obtain ⟨v1, hv1, h⟩ := vb_some h
  refine ai (e_iinc (pc := 260) (k := 4) hv1 ic_1 (by decide +kernel : decode k_R_adds.2.1 260 = .ok (.iinc 4 (1), 3)) rfl (by decide) rfl) ?_
  refine ai (r_goto (pc := 263) (tgt := 6) (by decide +kernel : decode k_R_adds.2.1 263 = .ok (.goto (-257), 3)) (by decide)) ?_
  exact (ai (r_sub [1, 2, 3, 4, 0] rfl) (hk6 x1 x2 x3 v1 m _ _ hL h))
set_option maxRecDepth 100000 in
set_option maxHeartbeats 4000000 in
theorem R_adds_214_run {k6 : Int32 → Int32 → Int32 → Int32 → Mem → Option (Unit × Mem)} {x1 : Int32} {x2 : Int32} {x3 : Int32} {x4 : Int32} {m m' : Mem} {r : Unit} (hk6 : ∀ (x1 : Int32) (x2 : Int32) (x3 : Int32) (x4 : Int32) (m : Mem) (r : Unit) (m' : Mem), RL m → k6 x1 x2 x3 x4 m = some (r, m') → Run k_R_adds 6 [(0, .ref 0), (1, .int x1), (2, .int x2), (3, .int x3), (4, .int x4)] [] m none m' ∧ RL m') (hL : RL m) (h : R_adds_214 k6 x1 x2 x3 x4 m = some (r, m')) : Run k_R_adds 214 [(0, .ref 0), (1, .int x1), (2, .int x2), (3, .int x3), (4, .int x4)] [] m none m' ∧ RL m' := by
  unfold R_adds_214 at h
  refine ai (p_aload_n (pc := 214) (k := 0) (by decide +kernel : decode k_R_adds.2.1 214 = .ok (.aload_n 0, 1)) rfl rfl) ?_
  refine ai (p_getr (pc := 215) (RR_1621_0 hL) (by decide +kernel : decode k_R_adds.2.1 215 = .ok (.getfield 194, 3)) lg_12_194 (RC_0 hL).1) ?_
  refine ai (r_iload (pc := 218) (k := 4) (by decide +kernel : decode k_R_adds.2.1 218 = .ok (.iload 4, 2)) rfl) ?_
  refine ai (r_iconst (pc := 220) (by decide +kernel : decode k_R_adds.2.1 220 = .ok (.iconst 2, 1)) ic_2) ?_
  obtain ⟨g1, h⟩ := gd_some h
  have c2 := (RC_58 hL).1
  have c3 := (RC_58 hL).2
  obtain ⟨m4, hm4, h⟩ := vb_some h
  have hL : RL m4 := by rw [hm4]; exact hL
  refine ai (p_iast (pc := 221) hm4 (by decide +kernel : decode k_R_adds.2.1 221 = .ok (.iastore, 1)) c2 c3 g1) ?_
  refine ai (r_goto (pc := 222) (tgt := 260) (by decide +kernel : decode k_R_adds.2.1 222 = .ok (.goto (38), 3)) (by decide)) ?_
  exact (R_adds_260_run hk6 hL h)
set_option maxRecDepth 100000 in
set_option maxHeartbeats 4000000 in
theorem R_adds_113_run {k6 : Int32 → Int32 → Int32 → Int32 → Mem → Option (Unit × Mem)} {x1 : Int32} {x2 : Int32} {x3 : Int32} {x4 : Int32} {x5 : Int32} {m m' : Mem} {r : Unit} (hk6 : ∀ (x1 : Int32) (x2 : Int32) (x3 : Int32) (x4 : Int32) (m : Mem) (r : Unit) (m' : Mem), RL m → k6 x1 x2 x3 x4 m = some (r, m') → Run k_R_adds 6 [(0, .ref 0), (1, .int x1), (2, .int x2), (3, .int x3), (4, .int x4)] [] m none m' ∧ RL m') (hL : RL m) (h : R_adds_113 k6 x1 x2 x3 x4 x5 m = some (r, m')) : Run k_R_adds 113 [(0, .ref 0), (1, .int x1), (2, .int x2), (3, .int x3), (4, .int x4), (5, .int x5)] [] m none m' ∧ RL m' := by
  unfold R_adds_113 at h
  refine ai (p_aload_n (pc := 113) (k := 0) (by decide +kernel : decode k_R_adds.2.1 113 = .ok (.aload_n 0, 1)) rfl rfl) ?_
  refine ai (p_getr (pc := 114) (RR_1617_0 hL) (by decide +kernel : decode k_R_adds.2.1 114 = .ok (.getfield 182, 3)) lg_12_182 (RC_0 hL).1) ?_
  refine ai (r_iload (pc := 117) (k := 5) (by decide +kernel : decode k_R_adds.2.1 117 = .ok (.iload 5, 2)) rfl) ?_
  refine ai (r_iload (pc := 119) (k := 4) (by decide +kernel : decode k_R_adds.2.1 119 = .ok (.iload 4, 2)) rfl) ?_
  obtain ⟨g1, h⟩ := gd_some h
  have c2 := (RC_54 hL).1
  have c3 := (RC_54 hL).2
  obtain ⟨m4, hm4, h⟩ := vb_some h
  have hL : RL m4 := by rw [hm4]; exact hL
  refine ai (p_iast (pc := 121) hm4 (by decide +kernel : decode k_R_adds.2.1 121 = .ok (.iastore, 1)) c2 c3 g1) ?_
  refine ai (p_aload_n (pc := 122) (k := 0) (by decide +kernel : decode k_R_adds.2.1 122 = .ok (.aload_n 0, 1)) rfl rfl) ?_
  refine ai (p_getr (pc := 123) (RR_1618_0 hL) (by decide +kernel : decode k_R_adds.2.1 123 = .ok (.getfield 185, 3)) lg_12_185 (RC_0 hL).1) ?_
  refine ai (r_iload (pc := 126) (k := 5) (by decide +kernel : decode k_R_adds.2.1 126 = .ok (.iload 5, 2)) rfl) ?_
  refine ai (r_iconst (pc := 128) (by decide +kernel : decode k_R_adds.2.1 128 = .ok (.iconst (-1), 1)) ic_m1) ?_
  obtain ⟨g5, h⟩ := gd_some h
  have c6 := (RC_55 hL).1
  have c7 := (RC_55 hL).2
  obtain ⟨m8, hm8, h⟩ := vb_some h
  have hL : RL m8 := by rw [hm8]; exact hL
  refine ai (p_iast (pc := 129) hm8 (by decide +kernel : decode k_R_adds.2.1 129 = .ok (.iastore, 1)) c6 c7 g5) ?_
  refine ai (r_goto (pc := 130) (tgt := 260) (by decide +kernel : decode k_R_adds.2.1 130 = .ok (.goto (130), 3)) (by decide)) ?_
  exact (ai (r_sub [0, 1, 2, 3, 4] rfl) (R_adds_260_run hk6 hL h))
set_option maxRecDepth 100000 in
set_option maxHeartbeats 4000000 in
theorem R_adds_6_run {n : Nat} {x1 : Int32} {x2 : Int32} {x3 : Int32} {x4 : Int32} {m m' : Mem} {r : Unit} (hL : RL m) (h : R_adds_6 n x1 x2 x3 x4 m = some (r, m')) : Run k_R_adds 6 [(0, .ref 0), (1, .int x1), (2, .int x2), (3, .int x3), (4, .int x4)] [] m none m' ∧ RL m' := by
  induction n generalizing x1 x2 x3 x4 m r m' with
  | zero => exact absurd h (by simp [R_adds_6])
  | succ n ih =>
    rw [R_adds_6.eq_2] at h
    refine ai (r_iload (pc := 6) (k := 4) (by decide +kernel : decode k_R_adds.2.1 6 = .ok (.iload 4, 2)) rfl) ?_
    refine ai (r_bipush (pc := 8) (by decide +kernel : decode k_R_adds.2.1 8 = .ok (.bipush (30), 2)) (by decide : _ = (30 : Int32))) ?_
    refine ai (r_iload_n (pc := 10) (k := 2) (by decide +kernel : decode k_R_adds.2.1 10 = .ok (.iload_n 2, 1)) rfl rfl) ?_
    refine ai (r_imul (pc := 11) (by decide +kernel : decode k_R_adds.2.1 11 = .ok (.imul, 1))) ?_
    refine ai (p_aload_n (pc := 12) (k := 0) (by decide +kernel : decode k_R_adds.2.1 12 = .ok (.aload_n 0, 1)) rfl rfl) ?_
    refine ai (p_getr (pc := 13) (RR_1561_0 hL) (by decide +kernel : decode k_R_adds.2.1 13 = .ok (.getfield 58, 3)) lg_12_58 (RC_0 hL).1) ?_
    refine ai (r_iload_n (pc := 16) (k := 2) (by decide +kernel : decode k_R_adds.2.1 16 = .ok (.iload_n 2, 1)) rfl rfl) ?_
    obtain ⟨g1, h⟩ := gd_some h
    refine ai (p_iald (pc := 17) (by decide +kernel : decode k_R_adds.2.1 17 = .ok (.iaload, 1)) (RC_14 hL).1 (RC_14 hL).2 g1) ?_
    refine ai (r_iadd (pc := 18) (by decide +kernel : decode k_R_adds.2.1 18 = .ok (.iadd, 1))) ?_
    rcases ite_some h with ⟨c2, h⟩ | ⟨c2, h⟩
    · refine ai (r_icmp_ge_t (pc := 19) (tgt := 266) (by decide +kernel : decode k_R_adds.2.1 19 = .ok (.if_icmp .ge (247), 3)) (by decide) c2) ?_
      cases h
      exact ⟨r_vret rfl (by decide +kernel : decode k_R_adds.2.1 266 = .ok (.return_, 1)), hL⟩
    · refine ai (r_icmp_ge_f (pc := 19) 266 (by decide +kernel : decode k_R_adds.2.1 19 = .ok (.if_icmp .ge (247), 3)) (by decide) c2) ?_
      refine ai (p_aload_n (pc := 22) (k := 0) (by decide +kernel : decode k_R_adds.2.1 22 = .ok (.aload_n 0, 1)) rfl rfl) ?_
      refine ai (r_iload_n (pc := 23) (k := 1) (by decide +kernel : decode k_R_adds.2.1 23 = .ok (.iload_n 1, 1)) rfl rfl) ?_
      refine ai (p_aload_n (pc := 24) (k := 0) (by decide +kernel : decode k_R_adds.2.1 24 = .ok (.aload_n 0, 1)) rfl rfl) ?_
      refine ai (p_getr (pc := 25) (RR_1563_0 hL) (by decide +kernel : decode k_R_adds.2.1 25 = .ok (.getfield 64, 3)) lg_12_64 (RC_0 hL).1) ?_
      refine ai (r_iload (pc := 28) (k := 4) (by decide +kernel : decode k_R_adds.2.1 28 = .ok (.iload 4, 2)) rfl) ?_
      obtain ⟨g3, h⟩ := gd_some h
      refine ai (p_iald (pc := 30) (by decide +kernel : decode k_R_adds.2.1 30 = .ok (.iaload, 1)) (RC_16 hL).1 (RC_16 hL).2 g3) ?_
      obtain ⟨r4, m5, hr4, h⟩ := bn_some h
      have q6 := R_rowOf_run hL hr4
      have c7 := (RC_0 hL).1
      have hL := q6.2
      refine ai (q_callV (pc := 31) (As := [.int x1, .int (aI m 16 (ix x4))]) (st := []) (st2 := [.int r4]) (b := 0) rfl rfl (by decide +kernel : decode k_R_adds.2.1 31 = .ok (.invokevirtual 494, 3)) lc_12_494 mo_R_rowOf ⟨Nat.le_of_ble_eq_true rfl, Nat.le_of_ble_eq_true rfl⟩ (Nat.le_of_ble_eq_true rfl) (Nat.le_of_ble_eq_true rfl) c7 q6.1) ?_
      refine ai (e_istore (pc := 34) rfl (by decide +kernel : decode k_R_adds.2.1 34 = .ok (.istore 5, 2)) (by decide) rfl) ?_
      refine ai (p_aload_n (pc := 36) (k := 1) (by decide +kernel : decode k_R_adds.2.1 36 = .ok (.aload_n 0, 1)) rfl rfl) ?_
      refine ai (p_getr (pc := 37) (RR_1562_0 hL) (by decide +kernel : decode k_R_adds.2.1 37 = .ok (.getfield 61, 3)) lg_12_61 (RC_0 hL).1) ?_
      refine ai (r_iload (pc := 40) (k := 5) (by decide +kernel : decode k_R_adds.2.1 40 = .ok (.iload 4, 2)) rfl) ?_
      obtain ⟨g8, h⟩ := gd_some h
      refine ai (p_iald (pc := 42) (by decide +kernel : decode k_R_adds.2.1 42 = .ok (.iaload, 1)) (RC_15 hL).1 (RC_15 hL).2 g8) ?_
      rcases ite_some h with ⟨c9, h⟩ | ⟨c9, h⟩
      · refine ai (r_tableIn (pc := 43) (tgt := 84) (off := 41) (by decide +kernel : decode k_R_adds.2.1 43 = .ok (.tableswitch (217) (2) (8) #[41, 90, 41, 41, 106, 122, 149], 41)) (by rw [c9]; decide) (by rw [c9]; decide) (by rw [c9]; decide +kernel) (by decide)) ?_
        refine ai (r_iload (pc := 84) (k := 0) (by decide +kernel : decode k_R_adds.2.1 84 = .ok (.iload 5, 2)) rfl) ?_
        refine ai (r_iconst (pc := 86) (by decide +kernel : decode k_R_adds.2.1 86 = .ok (.iconst (-1), 1)) ic_m1) ?_
        rcases ite_some h with ⟨c10, h⟩ | ⟨c10, h⟩
        · refine ai (r_icmp_ne_f (pc := 87) 113 (by decide +kernel : decode k_R_adds.2.1 87 = .ok (.if_icmp .ne (26), 3)) (by decide) c10) ?_
          refine ai (r_bipush (pc := 90) (by decide +kernel : decode k_R_adds.2.1 90 = .ok (.bipush (64), 2)) (by decide : _ = (64 : Int32))) ?_
          refine ai (r_iload_n (pc := 92) (k := 2) (by decide +kernel : decode k_R_adds.2.1 92 = .ok (.iload_n 1, 1)) rfl rfl) ?_
          refine ai (r_imul (pc := 93) (by decide +kernel : decode k_R_adds.2.1 93 = .ok (.imul, 1))) ?_
          refine ai (p_aload_n (pc := 94) (k := 1) (by decide +kernel : decode k_R_adds.2.1 94 = .ok (.aload_n 0, 1)) rfl rfl) ?_
          refine ai (p_getr (pc := 95) (RR_1616_0 hL) (by decide +kernel : decode k_R_adds.2.1 95 = .ok (.getfield 179, 3)) lg_12_179 (RC_0 hL).1) ?_
          refine ai (r_iload_n (pc := 98) (k := 2) (by decide +kernel : decode k_R_adds.2.1 98 = .ok (.iload_n 1, 1)) rfl rfl) ?_
          obtain ⟨g11, h⟩ := gd_some h
          refine ai (p_iald (pc := 99) (by decide +kernel : decode k_R_adds.2.1 99 = .ok (.iaload, 1)) (RC_53 hL).1 (RC_53 hL).2 g11) ?_
          refine ai (r_iadd (pc := 100) (by decide +kernel : decode k_R_adds.2.1 100 = .ok (.iadd, 1))) ?_
          obtain ⟨v12, hv12, h⟩ := vb_some h
          refine ai (e_istore (pc := 101) hv12 (by decide +kernel : decode k_R_adds.2.1 101 = .ok (.istore 5, 2)) (by decide) rfl) ?_
          refine ai (p_aload_n (pc := 103) (k := 1) (by decide +kernel : decode k_R_adds.2.1 103 = .ok (.aload_n 0, 1)) rfl rfl) ?_
          refine ai (p_getr (pc := 104) (RR_1616_0 hL) (by decide +kernel : decode k_R_adds.2.1 104 = .ok (.getfield 179, 3)) lg_12_179 (RC_0 hL).1) ?_
          refine ai (r_iload_n (pc := 107) (k := 2) (by decide +kernel : decode k_R_adds.2.1 107 = .ok (.iload_n 1, 1)) rfl rfl) ?_
          refine ai (r_dup2 (pc := 108) (by decide +kernel : decode k_R_adds.2.1 108 = .ok (.dup2, 1)) rfl rfl) ?_
          obtain ⟨g13, h⟩ := gd_some h
          refine ai (p_iald (pc := 109) (by decide +kernel : decode k_R_adds.2.1 109 = .ok (.iaload, 1)) (RC_53 hL).1 (RC_53 hL).2 g13) ?_
          refine ai (r_iconst (pc := 110) (by decide +kernel : decode k_R_adds.2.1 110 = .ok (.iconst 1, 1)) ic_1) ?_
          refine ai (r_iadd (pc := 111) (by decide +kernel : decode k_R_adds.2.1 111 = .ok (.iadd, 1))) ?_
          obtain ⟨g14, h⟩ := gd_some h
          have c15 := (RC_53 hL).1
          have c16 := (RC_53 hL).2
          obtain ⟨m17, hm17, h⟩ := vb_some h
          have hL : RL m17 := by rw [hm17]; exact hL
          refine ai (p_iast (pc := 112) hm17 (by decide +kernel : decode k_R_adds.2.1 112 = .ok (.iastore, 1)) c15 c16 g14) ?_
          exact (ai (r_sub [1, 2, 3, 4, 5, 0] rfl) (R_adds_113_run (fun _ _ _ _ _ _ _ q1 q3 => ih q1 q3) hL h))
        · refine ai (r_icmp_ne_t (pc := 87) (tgt := 113) (by decide +kernel : decode k_R_adds.2.1 87 = .ok (.if_icmp .ne (26), 3)) (by decide) c10) ?_
          exact (ai (r_sub [1, 2, 3, 4, 5, 0] rfl) (R_adds_113_run (fun _ _ _ _ _ _ _ q1 q3 => ih q1 q3) hL h))
      · skip
        rcases ite_some h with ⟨c18, h⟩ | ⟨c18, h⟩
        · refine ai (r_tableIn (pc := 43) (tgt := 133) (off := 90) (by decide +kernel : decode k_R_adds.2.1 43 = .ok (.tableswitch (217) (2) (8) #[41, 90, 41, 41, 106, 122, 149], 41)) (by rw [c18]; decide) (by rw [c18]; decide) (by rw [c18]; decide +kernel) (by decide)) ?_
          refine ai (p_aload_n (pc := 133) (k := 1) (by decide +kernel : decode k_R_adds.2.1 133 = .ok (.aload_n 0, 1)) rfl rfl) ?_
          refine ai (p_getr (pc := 134) (RR_1619_0 hL) (by decide +kernel : decode k_R_adds.2.1 134 = .ok (.getfield 188, 3)) lg_12_188 (RC_0 hL).1) ?_
          refine ai (r_iload_n (pc := 137) (k := 2) (by decide +kernel : decode k_R_adds.2.1 137 = .ok (.iload_n 1, 1)) rfl rfl) ?_
          refine ai (p_aload_n (pc := 138) (k := 1) (by decide +kernel : decode k_R_adds.2.1 138 = .ok (.aload_n 0, 1)) rfl rfl) ?_
          refine ai (p_getr (pc := 139) (RR_1564_0 hL) (by decide +kernel : decode k_R_adds.2.1 139 = .ok (.getfield 67, 3)) lg_12_67 (RC_0 hL).1) ?_
          refine ai (r_iload (pc := 142) (k := 5) (by decide +kernel : decode k_R_adds.2.1 142 = .ok (.iload 4, 2)) rfl) ?_
          obtain ⟨g19, h⟩ := gd_some h
          refine ai (p_iald (pc := 144) (by decide +kernel : decode k_R_adds.2.1 144 = .ok (.iaload, 1)) (RC_17 hL).1 (RC_17 hL).2 g19) ?_
          obtain ⟨g20, h⟩ := gd_some h
          have c21 := (RC_56 hL).1
          have c22 := (RC_56 hL).2
          obtain ⟨m23, hm23, h⟩ := vb_some h
          have hL : RL m23 := by rw [hm23]; exact hL
          refine ai (p_iast (pc := 145) hm23 (by decide +kernel : decode k_R_adds.2.1 145 = .ok (.iastore, 1)) c21 c22 g20) ?_
          refine ai (r_goto (pc := 146) (tgt := 260) (by decide +kernel : decode k_R_adds.2.1 146 = .ok (.goto (114), 3)) (by decide)) ?_
          exact (ai (r_sub [1, 2, 3, 4, 5] rfl) (R_adds_260_run (fun _ _ _ _ _ _ _ q1 q3 => ih q1 q3) hL h))
        · skip
          rcases ite_some h with ⟨c24, h⟩ | ⟨c24, h⟩
          · refine ai (r_tableIn (pc := 43) (tgt := 84) (off := 41) (by decide +kernel : decode k_R_adds.2.1 43 = .ok (.tableswitch (217) (2) (8) #[41, 90, 41, 41, 106, 122, 149], 41)) (by rw [c24]; decide) (by rw [c24]; decide) (by rw [c24]; decide +kernel) (by decide)) ?_
            refine ai (r_iload (pc := 84) (k := 0) (by decide +kernel : decode k_R_adds.2.1 84 = .ok (.iload 5, 2)) rfl) ?_
            refine ai (r_iconst (pc := 86) (by decide +kernel : decode k_R_adds.2.1 86 = .ok (.iconst (-1), 1)) ic_m1) ?_
            rcases ite_some h with ⟨c25, h⟩ | ⟨c25, h⟩
            · refine ai (r_icmp_ne_f (pc := 87) 113 (by decide +kernel : decode k_R_adds.2.1 87 = .ok (.if_icmp .ne (26), 3)) (by decide) c25) ?_
              refine ai (r_bipush (pc := 90) (by decide +kernel : decode k_R_adds.2.1 90 = .ok (.bipush (64), 2)) (by decide : _ = (64 : Int32))) ?_
              refine ai (r_iload_n (pc := 92) (k := 2) (by decide +kernel : decode k_R_adds.2.1 92 = .ok (.iload_n 1, 1)) rfl rfl) ?_
              refine ai (r_imul (pc := 93) (by decide +kernel : decode k_R_adds.2.1 93 = .ok (.imul, 1))) ?_
              refine ai (p_aload_n (pc := 94) (k := 1) (by decide +kernel : decode k_R_adds.2.1 94 = .ok (.aload_n 0, 1)) rfl rfl) ?_
              refine ai (p_getr (pc := 95) (RR_1616_0 hL) (by decide +kernel : decode k_R_adds.2.1 95 = .ok (.getfield 179, 3)) lg_12_179 (RC_0 hL).1) ?_
              refine ai (r_iload_n (pc := 98) (k := 2) (by decide +kernel : decode k_R_adds.2.1 98 = .ok (.iload_n 1, 1)) rfl rfl) ?_
              obtain ⟨g26, h⟩ := gd_some h
              refine ai (p_iald (pc := 99) (by decide +kernel : decode k_R_adds.2.1 99 = .ok (.iaload, 1)) (RC_53 hL).1 (RC_53 hL).2 g26) ?_
              refine ai (r_iadd (pc := 100) (by decide +kernel : decode k_R_adds.2.1 100 = .ok (.iadd, 1))) ?_
              obtain ⟨v27, hv27, h⟩ := vb_some h
              refine ai (e_istore (pc := 101) hv27 (by decide +kernel : decode k_R_adds.2.1 101 = .ok (.istore 5, 2)) (by decide) rfl) ?_
              refine ai (p_aload_n (pc := 103) (k := 1) (by decide +kernel : decode k_R_adds.2.1 103 = .ok (.aload_n 0, 1)) rfl rfl) ?_
              refine ai (p_getr (pc := 104) (RR_1616_0 hL) (by decide +kernel : decode k_R_adds.2.1 104 = .ok (.getfield 179, 3)) lg_12_179 (RC_0 hL).1) ?_
              refine ai (r_iload_n (pc := 107) (k := 2) (by decide +kernel : decode k_R_adds.2.1 107 = .ok (.iload_n 1, 1)) rfl rfl) ?_
              refine ai (r_dup2 (pc := 108) (by decide +kernel : decode k_R_adds.2.1 108 = .ok (.dup2, 1)) rfl rfl) ?_
              obtain ⟨g28, h⟩ := gd_some h
              refine ai (p_iald (pc := 109) (by decide +kernel : decode k_R_adds.2.1 109 = .ok (.iaload, 1)) (RC_53 hL).1 (RC_53 hL).2 g28) ?_
              refine ai (r_iconst (pc := 110) (by decide +kernel : decode k_R_adds.2.1 110 = .ok (.iconst 1, 1)) ic_1) ?_
              refine ai (r_iadd (pc := 111) (by decide +kernel : decode k_R_adds.2.1 111 = .ok (.iadd, 1))) ?_
              obtain ⟨g29, h⟩ := gd_some h
              have c30 := (RC_53 hL).1
              have c31 := (RC_53 hL).2
              obtain ⟨m32, hm32, h⟩ := vb_some h
              have hL : RL m32 := by rw [hm32]; exact hL
              refine ai (p_iast (pc := 112) hm32 (by decide +kernel : decode k_R_adds.2.1 112 = .ok (.iastore, 1)) c30 c31 g29) ?_
              exact (ai (r_sub [1, 2, 3, 4, 5, 0] rfl) (R_adds_113_run (fun _ _ _ _ _ _ _ q1 q3 => ih q1 q3) hL h))
            · refine ai (r_icmp_ne_t (pc := 87) (tgt := 113) (by decide +kernel : decode k_R_adds.2.1 87 = .ok (.if_icmp .ne (26), 3)) (by decide) c25) ?_
              exact (ai (r_sub [1, 2, 3, 4, 5, 0] rfl) (R_adds_113_run (fun _ _ _ _ _ _ _ q1 q3 => ih q1 q3) hL h))
          · skip
            rcases ite_some h with ⟨c33, h⟩ | ⟨c33, h⟩
            · refine ai (r_tableIn (pc := 43) (tgt := 84) (off := 41) (by decide +kernel : decode k_R_adds.2.1 43 = .ok (.tableswitch (217) (2) (8) #[41, 90, 41, 41, 106, 122, 149], 41)) (by rw [c33]; decide) (by rw [c33]; decide) (by rw [c33]; decide +kernel) (by decide)) ?_
              refine ai (r_iload (pc := 84) (k := 0) (by decide +kernel : decode k_R_adds.2.1 84 = .ok (.iload 5, 2)) rfl) ?_
              refine ai (r_iconst (pc := 86) (by decide +kernel : decode k_R_adds.2.1 86 = .ok (.iconst (-1), 1)) ic_m1) ?_
              rcases ite_some h with ⟨c34, h⟩ | ⟨c34, h⟩
              · refine ai (r_icmp_ne_f (pc := 87) 113 (by decide +kernel : decode k_R_adds.2.1 87 = .ok (.if_icmp .ne (26), 3)) (by decide) c34) ?_
                refine ai (r_bipush (pc := 90) (by decide +kernel : decode k_R_adds.2.1 90 = .ok (.bipush (64), 2)) (by decide : _ = (64 : Int32))) ?_
                refine ai (r_iload_n (pc := 92) (k := 2) (by decide +kernel : decode k_R_adds.2.1 92 = .ok (.iload_n 1, 1)) rfl rfl) ?_
                refine ai (r_imul (pc := 93) (by decide +kernel : decode k_R_adds.2.1 93 = .ok (.imul, 1))) ?_
                refine ai (p_aload_n (pc := 94) (k := 1) (by decide +kernel : decode k_R_adds.2.1 94 = .ok (.aload_n 0, 1)) rfl rfl) ?_
                refine ai (p_getr (pc := 95) (RR_1616_0 hL) (by decide +kernel : decode k_R_adds.2.1 95 = .ok (.getfield 179, 3)) lg_12_179 (RC_0 hL).1) ?_
                refine ai (r_iload_n (pc := 98) (k := 2) (by decide +kernel : decode k_R_adds.2.1 98 = .ok (.iload_n 1, 1)) rfl rfl) ?_
                obtain ⟨g35, h⟩ := gd_some h
                refine ai (p_iald (pc := 99) (by decide +kernel : decode k_R_adds.2.1 99 = .ok (.iaload, 1)) (RC_53 hL).1 (RC_53 hL).2 g35) ?_
                refine ai (r_iadd (pc := 100) (by decide +kernel : decode k_R_adds.2.1 100 = .ok (.iadd, 1))) ?_
                obtain ⟨v36, hv36, h⟩ := vb_some h
                refine ai (e_istore (pc := 101) hv36 (by decide +kernel : decode k_R_adds.2.1 101 = .ok (.istore 5, 2)) (by decide) rfl) ?_
                refine ai (p_aload_n (pc := 103) (k := 1) (by decide +kernel : decode k_R_adds.2.1 103 = .ok (.aload_n 0, 1)) rfl rfl) ?_
                refine ai (p_getr (pc := 104) (RR_1616_0 hL) (by decide +kernel : decode k_R_adds.2.1 104 = .ok (.getfield 179, 3)) lg_12_179 (RC_0 hL).1) ?_
                refine ai (r_iload_n (pc := 107) (k := 2) (by decide +kernel : decode k_R_adds.2.1 107 = .ok (.iload_n 1, 1)) rfl rfl) ?_
                refine ai (r_dup2 (pc := 108) (by decide +kernel : decode k_R_adds.2.1 108 = .ok (.dup2, 1)) rfl rfl) ?_
                obtain ⟨g37, h⟩ := gd_some h
                refine ai (p_iald (pc := 109) (by decide +kernel : decode k_R_adds.2.1 109 = .ok (.iaload, 1)) (RC_53 hL).1 (RC_53 hL).2 g37) ?_
                refine ai (r_iconst (pc := 110) (by decide +kernel : decode k_R_adds.2.1 110 = .ok (.iconst 1, 1)) ic_1) ?_
                refine ai (r_iadd (pc := 111) (by decide +kernel : decode k_R_adds.2.1 111 = .ok (.iadd, 1))) ?_
                obtain ⟨g38, h⟩ := gd_some h
                have c39 := (RC_53 hL).1
                have c40 := (RC_53 hL).2
                obtain ⟨m41, hm41, h⟩ := vb_some h
                have hL : RL m41 := by rw [hm41]; exact hL
                refine ai (p_iast (pc := 112) hm41 (by decide +kernel : decode k_R_adds.2.1 112 = .ok (.iastore, 1)) c39 c40 g38) ?_
                exact (ai (r_sub [1, 2, 3, 4, 5, 0] rfl) (R_adds_113_run (fun _ _ _ _ _ _ _ q1 q3 => ih q1 q3) hL h))
              · refine ai (r_icmp_ne_t (pc := 87) (tgt := 113) (by decide +kernel : decode k_R_adds.2.1 87 = .ok (.if_icmp .ne (26), 3)) (by decide) c34) ?_
                exact (ai (r_sub [1, 2, 3, 4, 5, 0] rfl) (R_adds_113_run (fun _ _ _ _ _ _ _ q1 q3 => ih q1 q3) hL h))
            · skip
              rcases ite_some h with ⟨c42, h⟩ | ⟨c42, h⟩
              · refine ai (r_tableIn (pc := 43) (tgt := 149) (off := 106) (by decide +kernel : decode k_R_adds.2.1 43 = .ok (.tableswitch (217) (2) (8) #[41, 90, 41, 41, 106, 122, 149], 41)) (by rw [c42]; decide) (by rw [c42]; decide) (by rw [c42]; decide +kernel) (by decide)) ?_
                refine ai (p_aload_n (pc := 149) (k := 1) (by decide +kernel : decode k_R_adds.2.1 149 = .ok (.aload_n 0, 1)) rfl rfl) ?_
                refine ai (p_getr (pc := 150) (RR_1620_0 hL) (by decide +kernel : decode k_R_adds.2.1 150 = .ok (.getfield 191, 3)) lg_12_191 (RC_0 hL).1) ?_
                refine ai (r_iload_n (pc := 153) (k := 2) (by decide +kernel : decode k_R_adds.2.1 153 = .ok (.iload_n 1, 1)) rfl rfl) ?_
                refine ai (p_aload_n (pc := 154) (k := 1) (by decide +kernel : decode k_R_adds.2.1 154 = .ok (.aload_n 0, 1)) rfl rfl) ?_
                refine ai (p_getr (pc := 155) (RR_1564_0 hL) (by decide +kernel : decode k_R_adds.2.1 155 = .ok (.getfield 67, 3)) lg_12_67 (RC_0 hL).1) ?_
                refine ai (r_iload (pc := 158) (k := 5) (by decide +kernel : decode k_R_adds.2.1 158 = .ok (.iload 4, 2)) rfl) ?_
                obtain ⟨g43, h⟩ := gd_some h
                refine ai (p_iald (pc := 160) (by decide +kernel : decode k_R_adds.2.1 160 = .ok (.iaload, 1)) (RC_17 hL).1 (RC_17 hL).2 g43) ?_
                obtain ⟨g44, h⟩ := gd_some h
                have c45 := (RC_57 hL).1
                have c46 := (RC_57 hL).2
                obtain ⟨m47, hm47, h⟩ := vb_some h
                have hL : RL m47 := by rw [hm47]; exact hL
                refine ai (p_iast (pc := 161) hm47 (by decide +kernel : decode k_R_adds.2.1 161 = .ok (.iastore, 1)) c45 c46 g44) ?_
                refine ai (r_goto (pc := 162) (tgt := 260) (by decide +kernel : decode k_R_adds.2.1 162 = .ok (.goto (98), 3)) (by decide)) ?_
                exact (ai (r_sub [1, 2, 3, 4, 5] rfl) (R_adds_260_run (fun _ _ _ _ _ _ _ q1 q3 => ih q1 q3) hL h))
              · skip
                rcases ite_some h with ⟨c48, h⟩ | ⟨c48, h⟩
                · refine ai (r_tableIn (pc := 43) (tgt := 165) (off := 122) (by decide +kernel : decode k_R_adds.2.1 43 = .ok (.tableswitch (217) (2) (8) #[41, 90, 41, 41, 106, 122, 149], 41)) (by rw [c48]; decide) (by rw [c48]; decide) (by rw [c48]; decide +kernel) (by decide)) ?_
                  refine ai (r_iload (pc := 165) (k := 0) (by decide +kernel : decode k_R_adds.2.1 165 = .ok (.iload 5, 2)) rfl) ?_
                  refine ai (r_iconst (pc := 167) (by decide +kernel : decode k_R_adds.2.1 167 = .ok (.iconst (-1), 1)) ic_m1) ?_
                  rcases ite_some h with ⟨c49, h⟩ | ⟨c49, h⟩
                  · refine ai (r_icmp_ne_f (pc := 168) 182 (by decide +kernel : decode k_R_adds.2.1 168 = .ok (.if_icmp .ne (14), 3)) (by decide) c49) ?_
                    refine ai (p_aload_n (pc := 171) (k := 1) (by decide +kernel : decode k_R_adds.2.1 171 = .ok (.aload_n 0, 1)) rfl rfl) ?_
                    refine ai (p_getr (pc := 172) (RR_1621_0 hL) (by decide +kernel : decode k_R_adds.2.1 172 = .ok (.getfield 194, 3)) lg_12_194 (RC_0 hL).1) ?_
                    refine ai (r_iload (pc := 175) (k := 5) (by decide +kernel : decode k_R_adds.2.1 175 = .ok (.iload 4, 2)) rfl) ?_
                    refine ai (r_iconst (pc := 177) (by decide +kernel : decode k_R_adds.2.1 177 = .ok (.iconst 2, 1)) ic_2) ?_
                    obtain ⟨g50, h⟩ := gd_some h
                    have c51 := (RC_58 hL).1
                    have c52 := (RC_58 hL).2
                    obtain ⟨m53, hm53, h⟩ := vb_some h
                    have hL : RL m53 := by rw [hm53]; exact hL
                    refine ai (p_iast (pc := 178) hm53 (by decide +kernel : decode k_R_adds.2.1 178 = .ok (.iastore, 1)) c51 c52 g50) ?_
                    refine ai (r_goto (pc := 179) (tgt := 260) (by decide +kernel : decode k_R_adds.2.1 179 = .ok (.goto (81), 3)) (by decide)) ?_
                    exact (ai (r_sub [1, 2, 3, 4, 5] rfl) (R_adds_260_run (fun _ _ _ _ _ _ _ q1 q3 => ih q1 q3) hL h))
                  · refine ai (r_icmp_ne_t (pc := 168) (tgt := 182) (by decide +kernel : decode k_R_adds.2.1 168 = .ok (.if_icmp .ne (14), 3)) (by decide) c49) ?_
                    refine ai (p_aload_n (pc := 182) (k := 1) (by decide +kernel : decode k_R_adds.2.1 182 = .ok (.aload_n 0, 1)) rfl rfl) ?_
                    refine ai (r_iload_n (pc := 183) (k := 2) (by decide +kernel : decode k_R_adds.2.1 183 = .ok (.iload_n 1, 1)) rfl rfl) ?_
                    refine ai (r_iload (pc := 184) (k := 0) (by decide +kernel : decode k_R_adds.2.1 184 = .ok (.iload 5, 2)) rfl) ?_
                    obtain ⟨r54, m55, hr54, h⟩ := bn_some h
                    have q56 := R_goes_run hL hr54
                    have c57 := (RC_0 hL).1
                    have hL := q56.2
                    refine ai (q_callV (pc := 186) (As := [.int x1, .int r4]) (st := []) (st2 := []) (b := 0) rfl rfl (by decide +kernel : decode k_R_adds.2.1 186 = .ok (.invokevirtual 497, 3)) lc_12_497 mo_R_goes ⟨Nat.le_of_ble_eq_true rfl, Nat.le_of_ble_eq_true rfl⟩ (Nat.le_of_ble_eq_true rfl) (Nat.le_of_ble_eq_true rfl) c57 q56.1) ?_
                    refine ai (r_goto (pc := 189) (tgt := 260) (by decide +kernel : decode k_R_adds.2.1 189 = .ok (.goto (71), 3)) (by decide)) ?_
                    exact (ai (r_sub [1, 2, 3, 4, 5] rfl) (R_adds_260_run (fun _ _ _ _ _ _ _ q1 q3 => ih q1 q3) hL h))
                · skip
                  rcases ite_some h with ⟨c58, h⟩ | ⟨c58, h⟩
                  · refine ai (r_tableIn (pc := 43) (tgt := 192) (off := 149) (by decide +kernel : decode k_R_adds.2.1 43 = .ok (.tableswitch (217) (2) (8) #[41, 90, 41, 41, 106, 122, 149], 41)) (by rw [c58]; decide) (by rw [c58]; decide) (by rw [c58]; decide +kernel) (by decide)) ?_
                    refine ai (r_iload (pc := 192) (k := 0) (by decide +kernel : decode k_R_adds.2.1 192 = .ok (.iload 5, 2)) rfl) ?_
                    refine ai (r_iconst (pc := 194) (by decide +kernel : decode k_R_adds.2.1 194 = .ok (.iconst (-1), 1)) ic_m1) ?_
                    rcases ite_some h with ⟨c59, h⟩ | ⟨c59, h⟩
                    · refine ai (r_icmp_eq_t (pc := 195) (tgt := 214) (by decide +kernel : decode k_R_adds.2.1 195 = .ok (.if_icmp .eq (19), 3)) (by decide) c59) ?_
                      exact (ai (r_sub [1, 2, 3, 4, 5] rfl) (R_adds_214_run (fun _ _ _ _ _ _ _ q1 q3 => ih q1 q3) hL h))
                    · refine ai (r_icmp_eq_f (pc := 195) 214 (by decide +kernel : decode k_R_adds.2.1 195 = .ok (.if_icmp .eq (19), 3)) (by decide) c59) ?_
                      refine ai (p_aload_n (pc := 198) (k := 1) (by decide +kernel : decode k_R_adds.2.1 198 = .ok (.aload_n 0, 1)) rfl rfl) ?_
                      refine ai (p_getr (pc := 199) (RR_1562_0 hL) (by decide +kernel : decode k_R_adds.2.1 199 = .ok (.getfield 61, 3)) lg_12_61 (RC_0 hL).1) ?_
                      refine ai (p_aload_n (pc := 202) (k := 1) (by decide +kernel : decode k_R_adds.2.1 202 = .ok (.aload_n 0, 1)) rfl rfl) ?_
                      refine ai (p_getr (pc := 203) (RR_1617_0 hL) (by decide +kernel : decode k_R_adds.2.1 203 = .ok (.getfield 182, 3)) lg_12_182 (RC_0 hL).1) ?_
                      refine ai (r_iload (pc := 206) (k := 0) (by decide +kernel : decode k_R_adds.2.1 206 = .ok (.iload 5, 2)) rfl) ?_
                      obtain ⟨g60, h⟩ := gd_some h
                      refine ai (p_iald (pc := 208) (by decide +kernel : decode k_R_adds.2.1 208 = .ok (.iaload, 1)) (RC_54 hL).1 (RC_54 hL).2 g60) ?_
                      obtain ⟨g61, h⟩ := gd_some h
                      refine ai (p_iald (pc := 209) (by decide +kernel : decode k_R_adds.2.1 209 = .ok (.iaload, 1)) (RC_15 hL).1 (RC_15 hL).2 g61) ?_
                      refine ai (r_iconst (pc := 210) (by decide +kernel : decode k_R_adds.2.1 210 = .ok (.iconst 2, 1)) ic_2) ?_
                      rcases ite_some h with ⟨c62, h⟩ | ⟨c62, h⟩
                      · refine ai (r_icmp_eq_t (pc := 211) (tgt := 225) (by decide +kernel : decode k_R_adds.2.1 211 = .ok (.if_icmp .eq (14), 3)) (by decide) c62) ?_
                        refine ai (p_aload_n (pc := 225) (k := 1) (by decide +kernel : decode k_R_adds.2.1 225 = .ok (.aload_n 0, 1)) rfl rfl) ?_
                        refine ai (r_iload_n (pc := 226) (k := 2) (by decide +kernel : decode k_R_adds.2.1 226 = .ok (.iload_n 1, 1)) rfl rfl) ?_
                        refine ai (r_iload_n (pc := 227) (k := 3) (by decide +kernel : decode k_R_adds.2.1 227 = .ok (.iload_n 2, 1)) rfl rfl) ?_
                        refine ai (r_iload (pc := 228) (k := 5) (by decide +kernel : decode k_R_adds.2.1 228 = .ok (.iload 4, 2)) rfl) ?_
                        refine ai (r_iload_n (pc := 230) (k := 4) (by decide +kernel : decode k_R_adds.2.1 230 = .ok (.iload_n 3, 1)) rfl rfl) ?_
                        obtain ⟨r63, m64, hr63, h⟩ := bn_some h
                        have q65 := R_isAmbit_run hL hr63
                        have c66 := (RC_0 hL).1
                        have hL := q65.2
                        refine ai (q_callV (pc := 231) (As := [.int x1, .int x2, .int x4, .int x3]) (st := []) (st2 := [.int r63]) (b := 0) rfl rfl (by decide +kernel : decode k_R_adds.2.1 231 = .ok (.invokevirtual 500, 3)) lc_12_500 mo_R_isAmbit ⟨Nat.le_of_ble_eq_true rfl, Nat.le_of_ble_eq_true rfl⟩ (Nat.le_of_ble_eq_true rfl) (Nat.le_of_ble_eq_true rfl) c66 q65.1) ?_
                        rcases ite_some h with ⟨c67, h⟩ | ⟨c67, h⟩
                        · refine ai (r_if_ne_f (pc := 234) 248 (by decide +kernel : decode k_R_adds.2.1 234 = .ok (.ifCond .ne (14), 3)) (by decide) c67) ?_
                          refine ai (p_aload_n (pc := 237) (k := 1) (by decide +kernel : decode k_R_adds.2.1 237 = .ok (.aload_n 0, 1)) rfl rfl) ?_
                          refine ai (p_getr (pc := 238) (RR_1621_0 hL) (by decide +kernel : decode k_R_adds.2.1 238 = .ok (.getfield 194, 3)) lg_12_194 (RC_0 hL).1) ?_
                          refine ai (r_iload (pc := 241) (k := 5) (by decide +kernel : decode k_R_adds.2.1 241 = .ok (.iload 4, 2)) rfl) ?_
                          refine ai (r_iconst (pc := 243) (by decide +kernel : decode k_R_adds.2.1 243 = .ok (.iconst 3, 1)) ic_3) ?_
                          obtain ⟨g68, h⟩ := gd_some h
                          have c69 := (RC_58 hL).1
                          have c70 := (RC_58 hL).2
                          obtain ⟨m71, hm71, h⟩ := vb_some h
                          have hL : RL m71 := by rw [hm71]; exact hL
                          refine ai (p_iast (pc := 244) hm71 (by decide +kernel : decode k_R_adds.2.1 244 = .ok (.iastore, 1)) c69 c70 g68) ?_
                          refine ai (r_goto (pc := 245) (tgt := 260) (by decide +kernel : decode k_R_adds.2.1 245 = .ok (.goto (15), 3)) (by decide)) ?_
                          exact (ai (r_sub [1, 2, 3, 4, 5] rfl) (R_adds_260_run (fun _ _ _ _ _ _ _ q1 q3 => ih q1 q3) hL h))
                        · refine ai (r_if_ne_t (pc := 234) (tgt := 248) (by decide +kernel : decode k_R_adds.2.1 234 = .ok (.ifCond .ne (14), 3)) (by decide) c67) ?_
                          refine ai (p_aload_n (pc := 248) (k := 1) (by decide +kernel : decode k_R_adds.2.1 248 = .ok (.aload_n 0, 1)) rfl rfl) ?_
                          refine ai (p_getr (pc := 249) (RR_1618_0 hL) (by decide +kernel : decode k_R_adds.2.1 249 = .ok (.getfield 185, 3)) lg_12_185 (RC_0 hL).1) ?_
                          refine ai (r_iload (pc := 252) (k := 0) (by decide +kernel : decode k_R_adds.2.1 252 = .ok (.iload 5, 2)) rfl) ?_
                          refine ai (r_iload (pc := 254) (k := 5) (by decide +kernel : decode k_R_adds.2.1 254 = .ok (.iload 4, 2)) rfl) ?_
                          obtain ⟨g72, h⟩ := gd_some h
                          have c73 := (RC_55 hL).1
                          have c74 := (RC_55 hL).2
                          obtain ⟨m75, hm75, h⟩ := vb_some h
                          have hL : RL m75 := by rw [hm75]; exact hL
                          refine ai (p_iast (pc := 256) hm75 (by decide +kernel : decode k_R_adds.2.1 256 = .ok (.iastore, 1)) c73 c74 g72) ?_
                          refine ai (r_goto (pc := 257) (tgt := 260) (by decide +kernel : decode k_R_adds.2.1 257 = .ok (.goto (3), 3)) (by decide)) ?_
                          exact (ai (r_sub [1, 2, 3, 4, 5] rfl) (R_adds_260_run (fun _ _ _ _ _ _ _ q1 q3 => ih q1 q3) hL h))
                      · refine ai (r_icmp_eq_f (pc := 211) 225 (by decide +kernel : decode k_R_adds.2.1 211 = .ok (.if_icmp .eq (14), 3)) (by decide) c62) ?_
                        exact (ai (r_sub [1, 2, 3, 4, 5] rfl) (R_adds_214_run (fun _ _ _ _ _ _ _ q1 q3 => ih q1 q3) hL h))
                  · skip
                    have ho := tab_out (x := aI m5 15 (ix x4)) 2 7 (by decide) (by decide) (fun k hk => by
                      rcases (show k = 0 ∨ k = 1 ∨ k = 2 ∨ k = 3 ∨ k = 4 ∨ k = 5 ∨ k = 6 by omega) with rfl | rfl | rfl | rfl | rfl | rfl | rfl
                      · exact fun z => c9 (z.trans (by decide))
                      · exact fun z => c18 (z.trans (by decide))
                      · exact fun z => c24 (z.trans (by decide))
                      · exact fun z => c33 (z.trans (by decide))
                      · exact fun z => c42 (z.trans (by decide))
                      · exact fun z => c48 (z.trans (by decide))
                      · exact fun z => c58 (z.trans (by decide)))
                    refine ai (r_tableOut (pc := 43) (tgt := 260) (by decide +kernel : decode k_R_adds.2.1 43 = .ok (.tableswitch (217) (2) (8) #[41, 90, 41, 41, 106, 122, 149], 41)) (by simpa using ho) (by decide)) ?_
                    exact (ai (r_sub [1, 2, 3, 4, 5] rfl) (R_adds_260_run (fun _ _ _ _ _ _ _ q1 q3 => ih q1 q3) hL h))
set_option maxRecDepth 100000 in
set_option maxHeartbeats 4000000 in
theorem R_adds_run {x1 : Int32} {x2 : Int32} {x3 : Int32} {m m' : Mem} {r : Unit} (hL : RL m) (h : R_adds x1 x2 x3 m = some (r, m')) : Run k_R_adds 0 [(0, .ref 0), (1, .int x1), (2, .int x2), (3, .int x3)] [] m none m' ∧ RL m' := by
  unfold R_adds at h
  refine ai (r_bipush (pc := 0) (by decide +kernel : decode k_R_adds.2.1 0 = .ok (.bipush (30), 2)) (by decide : _ = (30 : Int32))) ?_
  refine ai (r_iload_n (pc := 2) (k := 2) (by decide +kernel : decode k_R_adds.2.1 2 = .ok (.iload_n 2, 1)) rfl rfl) ?_
  refine ai (r_imul (pc := 3) (by decide +kernel : decode k_R_adds.2.1 3 = .ok (.imul, 1))) ?_
  obtain ⟨v1, hv1, h⟩ := vb_some h
  refine ai (e_istore (pc := 4) hv1 (by decide +kernel : decode k_R_adds.2.1 4 = .ok (.istore 4, 2)) (by decide) rfl) ?_
  exact (ai (r_sub [1, 2, 3, 4, 0] rfl) (R_adds_6_run hL h))
set_option maxRecDepth 100000 in
set_option maxHeartbeats 4000000 in
theorem R_stands_24_run {x1 : Int32} {x2 : Int32} {x3 : Int32} {m m' : Mem} {r : Unit} (hL : RL m) (h : R_stands_24 x1 x2 x3 m = some (r, m')) : Run k_R_stands 24 [(0, .ref 0), (1, .int x1), (2, .int x2), (3, .int x3)] [] m none m' ∧ RL m' := by
  unfold R_stands_24 at h
  refine ai (p_aload_n (pc := 24) (k := 0) (by decide +kernel : decode k_R_stands.2.1 24 = .ok (.aload_n 0, 1)) rfl rfl) ?_
  refine ai (p_getr (pc := 25) (RR_1608_0 hL) (by decide +kernel : decode k_R_stands.2.1 25 = .ok (.getfield 167, 3)) lg_12_167 (RC_0 hL).1) ?_
  refine ai (r_iconst (pc := 28) (by decide +kernel : decode k_R_stands.2.1 28 = .ok (.iconst 0, 1)) ic_0) ?_
  refine ai (p_aload_n (pc := 29) (k := 0) (by decide +kernel : decode k_R_stands.2.1 29 = .ok (.aload_n 0, 1)) rfl rfl) ?_
  refine ai (p_aload_n (pc := 30) (k := 0) (by decide +kernel : decode k_R_stands.2.1 30 = .ok (.aload_n 0, 1)) rfl rfl) ?_
  refine ai (p_getr (pc := 31) (RR_1593_0 hL) (by decide +kernel : decode k_R_stands.2.1 31 = .ok (.getfield 128, 3)) lg_12_128 (RC_0 hL).1) ?_
  refine ai (r_iload_n (pc := 34) (k := 2) (by decide +kernel : decode k_R_stands.2.1 34 = .ok (.iload_n 2, 1)) rfl rfl) ?_
  obtain ⟨g1, h⟩ := gd_some h
  refine ai (p_iald (pc := 35) (by decide +kernel : decode k_R_stands.2.1 35 = .ok (.iaload, 1)) (RC_37 hL).1 (RC_37 hL).2 g1) ?_
  refine ai (r_iload_n (pc := 36) (k := 1) (by decide +kernel : decode k_R_stands.2.1 36 = .ok (.iload_n 1, 1)) rfl rfl) ?_
  refine ai (r_bipush (pc := 37) (by decide +kernel : decode k_R_stands.2.1 37 = .ok (.bipush (35), 2)) (by decide : _ = (35 : Int32))) ?_
  refine ai (r_idiv (pc := 39) (by decide +kernel : decode k_R_stands.2.1 39 = .ok (.idiv, 1)) (by decide)) ?_
  refine ai (r_iload_n (pc := 40) (k := 3) (by decide +kernel : decode k_R_stands.2.1 40 = .ok (.iload_n 3, 1)) rfl rfl) ?_
  obtain ⟨r2, m3, hr2, h⟩ := bn_some h
  have q4 := R_leastOf_run hL hr2
  have c5 := (RC_0 hL).1
  have hL := q4.2
  refine ai (q_callV (pc := 41) (As := [.int (aI m 37 (ix x2)), .int (x1 / 35), .int x3]) (st := [.int 0, .ref 50]) (st2 := [.int r2, .int 0, .ref 50]) (b := 0) rfl rfl (by decide +kernel : decode k_R_stands.2.1 41 = .ok (.invokevirtual 461, 3)) lc_12_461 mo_R_leastOf ⟨Nat.le_of_ble_eq_true rfl, Nat.le_of_ble_eq_true rfl⟩ (Nat.le_of_ble_eq_true rfl) (Nat.le_of_ble_eq_true rfl) c5 q4.1) ?_
  obtain ⟨g6, h⟩ := gd_some h
  have c7 := (RC_50 hL).1
  have c8 := (RC_50 hL).2
  obtain ⟨m9, hm9, h⟩ := vb_some h
  have hL : RL m9 := by rw [hm9]; exact hL
  refine ai (p_iast (pc := 44) hm9 (by decide +kernel : decode k_R_stands.2.1 44 = .ok (.iastore, 1)) c7 c8 g6) ?_
  refine ai (p_aload_n (pc := 45) (k := 0) (by decide +kernel : decode k_R_stands.2.1 45 = .ok (.aload_n 0, 1)) rfl rfl) ?_
  refine ai (p_getr (pc := 46) (RR_1608_0 hL) (by decide +kernel : decode k_R_stands.2.1 46 = .ok (.getfield 167, 3)) lg_12_167 (RC_0 hL).1) ?_
  refine ai (r_iconst (pc := 49) (by decide +kernel : decode k_R_stands.2.1 49 = .ok (.iconst 2, 1)) ic_2) ?_
  refine ai (p_aload_n (pc := 50) (k := 0) (by decide +kernel : decode k_R_stands.2.1 50 = .ok (.aload_n 0, 1)) rfl rfl) ?_
  refine ai (p_getr (pc := 51) (RR_1594_0 hL) (by decide +kernel : decode k_R_stands.2.1 51 = .ok (.getfield 131, 3)) lg_12_131 (RC_0 hL).1) ?_
  refine ai (r_iload_n (pc := 54) (k := 2) (by decide +kernel : decode k_R_stands.2.1 54 = .ok (.iload_n 2, 1)) rfl rfl) ?_
  obtain ⟨g10, h⟩ := gd_some h
  refine ai (p_iald (pc := 55) (by decide +kernel : decode k_R_stands.2.1 55 = .ok (.iaload, 1)) (RC_38 hL).1 (RC_38 hL).2 g10) ?_
  obtain ⟨g11, h⟩ := gd_some h
  have c12 := (RC_50 hL).1
  have c13 := (RC_50 hL).2
  obtain ⟨m14, hm14, h⟩ := vb_some h
  have hL : RL m14 := by rw [hm14]; exact hL
  refine ai (p_iast (pc := 56) hm14 (by decide +kernel : decode k_R_stands.2.1 56 = .ok (.iastore, 1)) c12 c13 g11) ?_
  refine ai (p_aload_n (pc := 57) (k := 0) (by decide +kernel : decode k_R_stands.2.1 57 = .ok (.aload_n 0, 1)) rfl rfl) ?_
  refine ai (p_getr (pc := 58) (RR_1608_0 hL) (by decide +kernel : decode k_R_stands.2.1 58 = .ok (.getfield 167, 3)) lg_12_167 (RC_0 hL).1) ?_
  refine ai (r_iconst (pc := 61) (by decide +kernel : decode k_R_stands.2.1 61 = .ok (.iconst 3, 1)) ic_3) ?_
  refine ai (p_aload_n (pc := 62) (k := 0) (by decide +kernel : decode k_R_stands.2.1 62 = .ok (.aload_n 0, 1)) rfl rfl) ?_
  refine ai (p_getr (pc := 63) (RR_1593_0 hL) (by decide +kernel : decode k_R_stands.2.1 63 = .ok (.getfield 128, 3)) lg_12_128 (RC_0 hL).1) ?_
  refine ai (r_iload_n (pc := 66) (k := 2) (by decide +kernel : decode k_R_stands.2.1 66 = .ok (.iload_n 2, 1)) rfl rfl) ?_
  obtain ⟨g15, h⟩ := gd_some h
  refine ai (p_iald (pc := 67) (by decide +kernel : decode k_R_stands.2.1 67 = .ok (.iaload, 1)) (RC_37 hL).1 (RC_37 hL).2 g15) ?_
  obtain ⟨g16, h⟩ := gd_some h
  have c17 := (RC_50 hL).1
  have c18 := (RC_50 hL).2
  obtain ⟨m19, hm19, h⟩ := vb_some h
  have hL : RL m19 := by rw [hm19]; exact hL
  refine ai (p_iast (pc := 68) hm19 (by decide +kernel : decode k_R_stands.2.1 68 = .ok (.iastore, 1)) c17 c18 g16) ?_
  refine ai (p_aload_n (pc := 69) (k := 0) (by decide +kernel : decode k_R_stands.2.1 69 = .ok (.aload_n 0, 1)) rfl rfl) ?_
  refine ai (p_getr (pc := 70) (RR_1608_0 hL) (by decide +kernel : decode k_R_stands.2.1 70 = .ok (.getfield 167, 3)) lg_12_167 (RC_0 hL).1) ?_
  refine ai (r_iconst (pc := 73) (by decide +kernel : decode k_R_stands.2.1 73 = .ok (.iconst 4, 1)) ic_4) ?_
  refine ai (r_iload_n (pc := 74) (k := 2) (by decide +kernel : decode k_R_stands.2.1 74 = .ok (.iload_n 2, 1)) rfl rfl) ?_
  obtain ⟨g20, h⟩ := gd_some h
  have c21 := (RC_50 hL).1
  have c22 := (RC_50 hL).2
  obtain ⟨m23, hm23, h⟩ := vb_some h
  have hL : RL m23 := by rw [hm23]; exact hL
  refine ai (p_iast (pc := 75) hm23 (by decide +kernel : decode k_R_stands.2.1 75 = .ok (.iastore, 1)) c21 c22 g20) ?_
  cases h
  exact ⟨r_vret rfl (by decide +kernel : decode k_R_stands.2.1 76 = .ok (.return_, 1)), hL⟩
set_option maxRecDepth 100000 in
set_option maxHeartbeats 4000000 in
theorem R_stands_3_run {n : Nat} {x1 : Int32} {x2 : Int32} {x3 : Int32} {x4 : Int32} {m m' : Mem} {r : Unit} (hL : RL m) (h : R_stands_3 n x1 x2 x3 x4 m = some (r, m')) : Run k_R_stands 3 [(0, .ref 0), (1, .int x1), (2, .int x2), (3, .int x3), (4, .int x4)] [] m none m' ∧ RL m' := by
  induction n generalizing x1 x2 x3 x4 m r m' with
  | zero => exact absurd h (by simp [R_stands_3])
  | succ n ih =>
    rw [R_stands_3.eq_2] at h
    refine ai (r_iload (pc := 3) (k := 4) (by decide +kernel : decode k_R_stands.2.1 3 = .ok (.iload 4, 2)) rfl) ?_
    refine ai (r_bipush (pc := 5) (by decide +kernel : decode k_R_stands.2.1 5 = .ok (.bipush (12), 2)) (by decide : _ = (12 : Int32))) ?_
    rcases ite_some h with ⟨c1, h⟩ | ⟨c1, h⟩
    · refine ai (r_icmp_ge_t (pc := 7) (tgt := 24) (by decide +kernel : decode k_R_stands.2.1 7 = .ok (.if_icmp .ge (17), 3)) (by decide) c1) ?_
      exact (ai (r_sub [0, 1, 2, 3] rfl) (R_stands_24_run hL h))
    · refine ai (r_icmp_ge_f (pc := 7) 24 (by decide +kernel : decode k_R_stands.2.1 7 = .ok (.if_icmp .ge (17), 3)) (by decide) c1) ?_
      refine ai (p_aload_n (pc := 10) (k := 0) (by decide +kernel : decode k_R_stands.2.1 10 = .ok (.aload_n 0, 1)) rfl rfl) ?_
      refine ai (p_getr (pc := 11) (RR_1608_0 hL) (by decide +kernel : decode k_R_stands.2.1 11 = .ok (.getfield 167, 3)) lg_12_167 (RC_0 hL).1) ?_
      refine ai (r_iload (pc := 14) (k := 4) (by decide +kernel : decode k_R_stands.2.1 14 = .ok (.iload 4, 2)) rfl) ?_
      refine ai (r_iconst (pc := 16) (by decide +kernel : decode k_R_stands.2.1 16 = .ok (.iconst 0, 1)) ic_0) ?_
      obtain ⟨g2, h⟩ := gd_some h
      have c3 := (RC_50 hL).1
      have c4 := (RC_50 hL).2
      obtain ⟨m5, hm5, h⟩ := vb_some h
      have hL : RL m5 := by rw [hm5]; exact hL
      refine ai (p_iast (pc := 17) hm5 (by decide +kernel : decode k_R_stands.2.1 17 = .ok (.iastore, 1)) c3 c4 g2) ?_
      obtain ⟨v6, hv6, h⟩ := vb_some h
      refine ai (e_iinc (pc := 18) (k := 4) hv6 ic_1 (by decide +kernel : decode k_R_stands.2.1 18 = .ok (.iinc 4 (1), 3)) rfl (by decide) rfl) ?_
      refine ai (r_goto (pc := 21) (tgt := 3) (by decide +kernel : decode k_R_stands.2.1 21 = .ok (.goto (-18), 3)) (by decide)) ?_
      exact (ai (r_sub [1, 2, 3, 4, 0] rfl) (ih hL h))
set_option maxRecDepth 100000 in
set_option maxHeartbeats 4000000 in
theorem R_stands_run {x1 : Int32} {x2 : Int32} {x3 : Int32} {m m' : Mem} {r : Unit} (hL : RL m) (h : R_stands x1 x2 x3 m = some (r, m')) : Run k_R_stands 0 [(0, .ref 0), (1, .int x1), (2, .int x2), (3, .int x3)] [] m none m' ∧ RL m' := by
  unfold R_stands at h
  refine ai (r_iconst (pc := 0) (by decide +kernel : decode k_R_stands.2.1 0 = .ok (.iconst 0, 1)) ic_0) ?_
  refine ai (e_istore (pc := 1) rfl (by decide +kernel : decode k_R_stands.2.1 1 = .ok (.istore 4, 2)) (by decide) rfl) ?_
  exact (ai (r_sub [1, 2, 3, 4, 0] rfl) (R_stands_3_run hL h))
set_option maxRecDepth 100000 in
set_option maxHeartbeats 4000000 in
theorem R_builds_138_run {k43 : Int32 → Int32 → Int32 → Int32 → Mem → Option (Unit × Mem)} {k99 : Int32 → Int32 → Int32 → Int32 → Int32 → Mem → Option (Unit × Mem)} {x1 : Int32} {x2 : Int32} {x3 : Int32} {x4 : Int32} {x5 : Int32} {s0 : Int32} {s1 : Int32} {m m' : Mem} {r : Unit} (hk43 : ∀ (x1 : Int32) (x2 : Int32) (x3 : Int32) (x4 : Int32) (m : Mem) (r : Unit) (m' : Mem), RL m → k43 x1 x2 x3 x4 m = some (r, m') → Run k_R_builds 43 [(0, .ref 0), (1, .int x1), (2, .int x2), (3, .int x3), (4, .int x4)] [] m none m' ∧ RL m') (hk99 : ∀ (x1 : Int32) (x2 : Int32) (x3 : Int32) (x4 : Int32) (x5 : Int32) (m : Mem) (r : Unit) (m' : Mem), RL m → k99 x1 x2 x3 x4 x5 m = some (r, m') → Run k_R_builds 99 [(0, .ref 0), (1, .int x1), (2, .int x2), (3, .int x3), (4, .int x4), (5, .int x5)] [] m none m' ∧ RL m') (hL : RL m) (h : R_builds_138 k43 k99 x1 x2 x3 x4 x5 s0 s1 m = some (r, m')) : Run k_R_builds 138 [(0, .ref 0), (1, .int x1), (2, .int x2), (3, .int x3), (4, .int x4), (5, .int x5)] [.int s0, .int s1, .ref 58] m none m' ∧ RL m' := by
  unfold R_builds_138 at h
  obtain ⟨g1, h⟩ := gd_some h
  have c2 := (RC_58 hL).1
  have c3 := (RC_58 hL).2
  obtain ⟨m4, hm4, h⟩ := vb_some h
  have hL : RL m4 := by rw [hm4]; exact hL
  refine ai (p_iast (pc := 138) hm4 (by decide +kernel : decode k_R_builds.2.1 138 = .ok (.iastore, 1)) c2 c3 g1) ?_
  obtain ⟨v5, hv5, h⟩ := vb_some h
  refine ai (e_iinc (pc := 139) (k := 5) hv5 ic_1 (by decide +kernel : decode k_R_builds.2.1 139 = .ok (.iinc 5 (1), 3)) rfl (by decide) rfl) ?_
  refine ai (r_goto (pc := 142) (tgt := 99) (by decide +kernel : decode k_R_builds.2.1 142 = .ok (.goto (-43), 3)) (by decide)) ?_
  exact (ai (r_sub [1, 2, 3, 4, 5, 0] rfl) (hk99 x1 x2 x3 x4 v5 m4 _ _ hL h))
set_option maxRecDepth 100000 in
set_option maxHeartbeats 4000000 in
theorem R_builds_185_run {k43 : Int32 → Int32 → Int32 → Int32 → Mem → Option (Unit × Mem)} {x1 : Int32} {x2 : Int32} {x3 : Int32} {x4 : Int32} {m m' : Mem} {r : Unit} (hk43 : ∀ (x1 : Int32) (x2 : Int32) (x3 : Int32) (x4 : Int32) (m : Mem) (r : Unit) (m' : Mem), RL m → k43 x1 x2 x3 x4 m = some (r, m') → Run k_R_builds 43 [(0, .ref 0), (1, .int x1), (2, .int x2), (3, .int x3), (4, .int x4)] [] m none m' ∧ RL m') (hL : RL m) (h : R_builds_185 k43 x1 x2 x3 x4 m = some (r, m')) : Run k_R_builds 185 [(0, .ref 0), (1, .int x1), (2, .int x2), (3, .int x3), (4, .int x4)] [] m none m' ∧ RL m' := by
  unfold R_builds_185 at h
  obtain ⟨v1, hv1, h⟩ := vb_some h
  refine ai (e_iinc (pc := 185) (k := 4) hv1 ic_1 (by decide +kernel : decode k_R_builds.2.1 185 = .ok (.iinc 4 (1), 3)) rfl (by decide) rfl) ?_
  refine ai (r_goto (pc := 188) (tgt := 43) (by decide +kernel : decode k_R_builds.2.1 188 = .ok (.goto (-145), 3)) (by decide)) ?_
  exact (ai (r_sub [1, 2, 3, 4, 0] rfl) (hk43 x1 x2 x3 v1 m _ _ hL h))
set_option maxRecDepth 100000 in
set_option maxHeartbeats 4000000 in
theorem R_builds_176_run {k43 : Int32 → Int32 → Int32 → Int32 → Mem → Option (Unit × Mem)} {x1 : Int32} {x2 : Int32} {x3 : Int32} {x4 : Int32} {m m' : Mem} {r : Unit} (hk43 : ∀ (x1 : Int32) (x2 : Int32) (x3 : Int32) (x4 : Int32) (m : Mem) (r : Unit) (m' : Mem), RL m → k43 x1 x2 x3 x4 m = some (r, m') → Run k_R_builds 43 [(0, .ref 0), (1, .int x1), (2, .int x2), (3, .int x3), (4, .int x4)] [] m none m' ∧ RL m') (hL : RL m) (h : R_builds_176 k43 x1 x2 x3 x4 m = some (r, m')) : Run k_R_builds 176 [(0, .ref 0), (1, .int x1), (2, .int x2), (3, .int x3), (4, .int x4)] [] m none m' ∧ RL m' := by
  unfold R_builds_176 at h
  refine ai (p_aload_n (pc := 176) (k := 0) (by decide +kernel : decode k_R_builds.2.1 176 = .ok (.aload_n 0, 1)) rfl rfl) ?_
  refine ai (r_iload (pc := 177) (k := 4) (by decide +kernel : decode k_R_builds.2.1 177 = .ok (.iload 4, 2)) rfl) ?_
  refine ai (r_iload (pc := 179) (k := 4) (by decide +kernel : decode k_R_builds.2.1 179 = .ok (.iload 4, 2)) rfl) ?_
  refine ai (r_iload_n (pc := 181) (k := 3) (by decide +kernel : decode k_R_builds.2.1 181 = .ok (.iload_n 3, 1)) rfl rfl) ?_
  obtain ⟨r1, m2, hr1, h⟩ := bn_some h
  have q3 := R_adds_run hL hr1
  have c4 := (RC_0 hL).1
  have hL := q3.2
  refine ai (q_callV (pc := 182) (As := [.int x4, .int x4, .int x3]) (st := []) (st2 := []) (b := 0) rfl rfl (by decide +kernel : decode k_R_builds.2.1 182 = .ok (.invokevirtual 487, 3)) lc_12_487 mo_R_adds ⟨Nat.le_of_ble_eq_true rfl, Nat.le_of_ble_eq_true rfl⟩ (Nat.le_of_ble_eq_true rfl) (Nat.le_of_ble_eq_true rfl) c4 q3.1) ?_
  exact (R_builds_185_run hk43 hL h)
set_option maxRecDepth 100000 in
set_option maxHeartbeats 4000000 in
theorem R_builds_145_run {k43 : Int32 → Int32 → Int32 → Int32 → Mem → Option (Unit × Mem)} {x1 : Int32} {x2 : Int32} {x3 : Int32} {x4 : Int32} {m m' : Mem} {r : Unit} (hk43 : ∀ (x1 : Int32) (x2 : Int32) (x3 : Int32) (x4 : Int32) (m : Mem) (r : Unit) (m' : Mem), RL m → k43 x1 x2 x3 x4 m = some (r, m') → Run k_R_builds 43 [(0, .ref 0), (1, .int x1), (2, .int x2), (3, .int x3), (4, .int x4)] [] m none m' ∧ RL m') (hL : RL m) (h : R_builds_145 k43 x1 x2 x3 x4 m = some (r, m')) : Run k_R_builds 145 [(0, .ref 0), (1, .int x1), (2, .int x2), (3, .int x3), (4, .int x4)] [] m none m' ∧ RL m' := by
  unfold R_builds_145 at h
  refine ai (p_aload_n (pc := 145) (k := 0) (by decide +kernel : decode k_R_builds.2.1 145 = .ok (.aload_n 0, 1)) rfl rfl) ?_
  refine ai (p_getr (pc := 146) (RR_1615_0 hL) (by decide +kernel : decode k_R_builds.2.1 146 = .ok (.getfield 176, 3)) lg_12_176 (RC_0 hL).1) ?_
  refine ai (r_iload (pc := 149) (k := 4) (by decide +kernel : decode k_R_builds.2.1 149 = .ok (.iload 4, 2)) rfl) ?_
  obtain ⟨g1, h⟩ := gd_some h
  refine ai (p_zald (pc := 151) (by decide +kernel : decode k_R_builds.2.1 151 = .ok (.baload, 1)) (RC_52 hL).1 (RC_52 hL).2 g1) ?_
  rcases ite_some h with ⟨c2, h⟩ | ⟨c2, h⟩
  · refine ai (r_if_eq_t (pc := 152) (tgt := 185) (by decide +kernel : decode k_R_builds.2.1 152 = .ok (.ifCond .eq (33), 3)) (by decide) c2) ?_
    exact (R_builds_185_run hk43 hL h)
  · refine ai (r_if_eq_f (pc := 152) 185 (by decide +kernel : decode k_R_builds.2.1 152 = .ok (.ifCond .eq (33), 3)) (by decide) c2) ?_
    refine ai (p_aload_n (pc := 155) (k := 0) (by decide +kernel : decode k_R_builds.2.1 155 = .ok (.aload_n 0, 1)) rfl rfl) ?_
    refine ai (p_getr (pc := 156) (RR_1555_0 hL) (by decide +kernel : decode k_R_builds.2.1 156 = .ok (.getfield 40, 3)) lg_12_40 (RC_0 hL).1) ?_
    refine ai (r_iload (pc := 159) (k := 4) (by decide +kernel : decode k_R_builds.2.1 159 = .ok (.iload 4, 2)) rfl) ?_
    obtain ⟨g3, h⟩ := gd_some h
    refine ai (p_iald (pc := 161) (by decide +kernel : decode k_R_builds.2.1 161 = .ok (.iaload, 1)) (RC_8 hL).1 (RC_8 hL).2 g3) ?_
    rcases ite_some h with ⟨c4, h⟩ | ⟨c4, h⟩
    · refine ai (r_if_eq_t (pc := 162) (tgt := 176) (by decide +kernel : decode k_R_builds.2.1 162 = .ok (.ifCond .eq (14), 3)) (by decide) c4) ?_
      exact (R_builds_176_run hk43 hL h)
    · refine ai (r_if_eq_f (pc := 162) 176 (by decide +kernel : decode k_R_builds.2.1 162 = .ok (.ifCond .eq (14), 3)) (by decide) c4) ?_
      refine ai (p_aload_n (pc := 165) (k := 0) (by decide +kernel : decode k_R_builds.2.1 165 = .ok (.aload_n 0, 1)) rfl rfl) ?_
      refine ai (p_getr (pc := 166) (RR_1555_0 hL) (by decide +kernel : decode k_R_builds.2.1 166 = .ok (.getfield 40, 3)) lg_12_40 (RC_0 hL).1) ?_
      refine ai (r_iload (pc := 169) (k := 4) (by decide +kernel : decode k_R_builds.2.1 169 = .ok (.iload 4, 2)) rfl) ?_
      obtain ⟨g5, h⟩ := gd_some h
      refine ai (p_iald (pc := 171) (by decide +kernel : decode k_R_builds.2.1 171 = .ok (.iaload, 1)) (RC_8 hL).1 (RC_8 hL).2 g5) ?_
      refine ai (r_iconst (pc := 172) (by decide +kernel : decode k_R_builds.2.1 172 = .ok (.iconst 3, 1)) ic_3) ?_
      rcases ite_some h with ⟨c6, h⟩ | ⟨c6, h⟩
      · refine ai (r_icmp_ne_f (pc := 173) 185 (by decide +kernel : decode k_R_builds.2.1 173 = .ok (.if_icmp .ne (12), 3)) (by decide) c6) ?_
        exact (R_builds_176_run hk43 hL h)
      · refine ai (r_icmp_ne_t (pc := 173) (tgt := 185) (by decide +kernel : decode k_R_builds.2.1 173 = .ok (.if_icmp .ne (12), 3)) (by decide) c6) ?_
        exact (R_builds_185_run hk43 hL h)
set_option maxRecDepth 100000 in
set_option maxHeartbeats 4000000 in
theorem R_builds_99_run {k43 : Int32 → Int32 → Int32 → Int32 → Mem → Option (Unit × Mem)} {n : Nat} {x1 : Int32} {x2 : Int32} {x3 : Int32} {x4 : Int32} {x5 : Int32} {m m' : Mem} {r : Unit} (hk43 : ∀ (x1 : Int32) (x2 : Int32) (x3 : Int32) (x4 : Int32) (m : Mem) (r : Unit) (m' : Mem), RL m → k43 x1 x2 x3 x4 m = some (r, m') → Run k_R_builds 43 [(0, .ref 0), (1, .int x1), (2, .int x2), (3, .int x3), (4, .int x4)] [] m none m' ∧ RL m') (hL : RL m) (h : R_builds_99 k43 n x1 x2 x3 x4 x5 m = some (r, m')) : Run k_R_builds 99 [(0, .ref 0), (1, .int x1), (2, .int x2), (3, .int x3), (4, .int x4), (5, .int x5)] [] m none m' ∧ RL m' := by
  induction n generalizing x1 x2 x3 x4 x5 m r m' with
  | zero => exact absurd h (by simp [R_builds_99])
  | succ n ih =>
    rw [R_builds_99.eq_2] at h
    refine ai (r_iload (pc := 99) (k := 5) (by decide +kernel : decode k_R_builds.2.1 99 = .ok (.iload 5, 2)) rfl) ?_
    refine ai (r_bipush (pc := 101) (by decide +kernel : decode k_R_builds.2.1 101 = .ok (.bipush (30), 2)) (by decide : _ = (30 : Int32))) ?_
    refine ai (r_iload (pc := 103) (k := 4) (by decide +kernel : decode k_R_builds.2.1 103 = .ok (.iload 4, 2)) rfl) ?_
    refine ai (r_imul (pc := 105) (by decide +kernel : decode k_R_builds.2.1 105 = .ok (.imul, 1))) ?_
    refine ai (p_aload_n (pc := 106) (k := 0) (by decide +kernel : decode k_R_builds.2.1 106 = .ok (.aload_n 0, 1)) rfl rfl) ?_
    refine ai (p_getr (pc := 107) (RR_1561_0 hL) (by decide +kernel : decode k_R_builds.2.1 107 = .ok (.getfield 58, 3)) lg_12_58 (RC_0 hL).1) ?_
    refine ai (r_iload (pc := 110) (k := 4) (by decide +kernel : decode k_R_builds.2.1 110 = .ok (.iload 4, 2)) rfl) ?_
    obtain ⟨g1, h⟩ := gd_some h
    refine ai (p_iald (pc := 112) (by decide +kernel : decode k_R_builds.2.1 112 = .ok (.iaload, 1)) (RC_14 hL).1 (RC_14 hL).2 g1) ?_
    refine ai (r_iadd (pc := 113) (by decide +kernel : decode k_R_builds.2.1 113 = .ok (.iadd, 1))) ?_
    rcases ite_some h with ⟨c2, h⟩ | ⟨c2, h⟩
    · refine ai (r_icmp_ge_t (pc := 114) (tgt := 145) (by decide +kernel : decode k_R_builds.2.1 114 = .ok (.if_icmp .ge (31), 3)) (by decide) c2) ?_
      exact (ai (r_sub [0, 1, 2, 3, 4] rfl) (R_builds_145_run hk43 hL h))
    · refine ai (r_icmp_ge_f (pc := 114) 145 (by decide +kernel : decode k_R_builds.2.1 114 = .ok (.if_icmp .ge (31), 3)) (by decide) c2) ?_
      refine ai (p_aload_n (pc := 117) (k := 0) (by decide +kernel : decode k_R_builds.2.1 117 = .ok (.aload_n 0, 1)) rfl rfl) ?_
      refine ai (p_getr (pc := 118) (RR_1621_0 hL) (by decide +kernel : decode k_R_builds.2.1 118 = .ok (.getfield 194, 3)) lg_12_194 (RC_0 hL).1) ?_
      refine ai (r_iload (pc := 121) (k := 5) (by decide +kernel : decode k_R_builds.2.1 121 = .ok (.iload 5, 2)) rfl) ?_
      refine ai (p_aload_n (pc := 123) (k := 0) (by decide +kernel : decode k_R_builds.2.1 123 = .ok (.aload_n 0, 1)) rfl rfl) ?_
      refine ai (p_getr (pc := 124) (RR_1615_0 hL) (by decide +kernel : decode k_R_builds.2.1 124 = .ok (.getfield 176, 3)) lg_12_176 (RC_0 hL).1) ?_
      refine ai (r_iload (pc := 127) (k := 4) (by decide +kernel : decode k_R_builds.2.1 127 = .ok (.iload 4, 2)) rfl) ?_
      obtain ⟨g3, h⟩ := gd_some h
      refine ai (p_zald (pc := 129) (by decide +kernel : decode k_R_builds.2.1 129 = .ok (.baload, 1)) (RC_52 hL).1 (RC_52 hL).2 g3) ?_
      rcases ite_some h with ⟨c4, h⟩ | ⟨c4, h⟩
      · refine ai (r_if_eq_t (pc := 130) (tgt := 137) (by decide +kernel : decode k_R_builds.2.1 130 = .ok (.ifCond .eq (7), 3)) (by decide) c4) ?_
        refine ai (r_iconst (pc := 137) (by decide +kernel : decode k_R_builds.2.1 137 = .ok (.iconst 1, 1)) ic_1) ?_
        exact (R_builds_138_run hk43 (fun _ _ _ _ _ _ _ _ q1 q3 => ih q1 q3) hL h)
      · refine ai (r_if_eq_f (pc := 130) 137 (by decide +kernel : decode k_R_builds.2.1 130 = .ok (.ifCond .eq (7), 3)) (by decide) c4) ?_
        refine ai (r_iconst (pc := 133) (by decide +kernel : decode k_R_builds.2.1 133 = .ok (.iconst 0, 1)) ic_0) ?_
        refine ai (r_goto (pc := 134) (tgt := 138) (by decide +kernel : decode k_R_builds.2.1 134 = .ok (.goto (4), 3)) (by decide)) ?_
        exact (R_builds_138_run hk43 (fun _ _ _ _ _ _ _ _ q1 q3 => ih q1 q3) hL h)
set_option maxRecDepth 100000 in
set_option maxHeartbeats 4000000 in
theorem R_builds_337_run {k194 : Int32 → Int32 → Int32 → Int32 → Mem → Option (Unit × Mem)} {k203 : Int32 → Int32 → Int32 → Int32 → Int32 → Mem → Option (Unit × Mem)} {x1 : Int32} {x2 : Int32} {x3 : Int32} {x4 : Int32} {x5 : Int32} {m m' : Mem} {r : Unit} (hk194 : ∀ (x1 : Int32) (x2 : Int32) (x3 : Int32) (x4 : Int32) (m : Mem) (r : Unit) (m' : Mem), RL m → k194 x1 x2 x3 x4 m = some (r, m') → Run k_R_builds 194 [(0, .ref 0), (1, .int x1), (2, .int x2), (3, .int x3), (4, .int x4)] [] m none m' ∧ RL m') (hk203 : ∀ (x1 : Int32) (x2 : Int32) (x3 : Int32) (x4 : Int32) (x5 : Int32) (m : Mem) (r : Unit) (m' : Mem), RL m → k203 x1 x2 x3 x4 x5 m = some (r, m') → Run k_R_builds 203 [(0, .ref 0), (1, .int x1), (2, .int x2), (3, .int x3), (4, .int x4), (5, .int x5)] [] m none m' ∧ RL m') (hL : RL m) (h : R_builds_337 k194 k203 x1 x2 x3 x4 x5 m = some (r, m')) : Run k_R_builds 337 [(0, .ref 0), (1, .int x1), (2, .int x2), (3, .int x3), (4, .int x4), (5, .int x5)] [] m none m' ∧ RL m' := by
  unfold R_builds_337 at h
  obtain ⟨v1, hv1, h⟩ := vb_some h
  refine ai (e_iinc (pc := 337) (k := 5) hv1 ic_1 (by decide +kernel : decode k_R_builds.2.1 337 = .ok (.iinc 5 (1), 3)) rfl (by decide) rfl) ?_
  refine ai (r_goto (pc := 340) (tgt := 203) (by decide +kernel : decode k_R_builds.2.1 340 = .ok (.goto (-137), 3)) (by decide)) ?_
  exact (ai (r_sub [1, 2, 3, 4, 5, 0] rfl) (hk203 x1 x2 x3 x4 v1 m _ _ hL h))
set_option maxRecDepth 100000 in
set_option maxHeartbeats 4000000 in
theorem R_builds_313_run {k194 : Int32 → Int32 → Int32 → Int32 → Mem → Option (Unit × Mem)} {k203 : Int32 → Int32 → Int32 → Int32 → Int32 → Mem → Option (Unit × Mem)} {x1 : Int32} {x2 : Int32} {x3 : Int32} {x4 : Int32} {x5 : Int32} {m m' : Mem} {r : Unit} (hk194 : ∀ (x1 : Int32) (x2 : Int32) (x3 : Int32) (x4 : Int32) (m : Mem) (r : Unit) (m' : Mem), RL m → k194 x1 x2 x3 x4 m = some (r, m') → Run k_R_builds 194 [(0, .ref 0), (1, .int x1), (2, .int x2), (3, .int x3), (4, .int x4)] [] m none m' ∧ RL m') (hk203 : ∀ (x1 : Int32) (x2 : Int32) (x3 : Int32) (x4 : Int32) (x5 : Int32) (m : Mem) (r : Unit) (m' : Mem), RL m → k203 x1 x2 x3 x4 x5 m = some (r, m') → Run k_R_builds 203 [(0, .ref 0), (1, .int x1), (2, .int x2), (3, .int x3), (4, .int x4), (5, .int x5)] [] m none m' ∧ RL m') (hL : RL m) (h : R_builds_313 k194 k203 x1 x2 x3 x4 x5 m = some (r, m')) : Run k_R_builds 313 [(0, .ref 0), (1, .int x1), (2, .int x2), (3, .int x3), (4, .int x4), (5, .int x5)] [] m none m' ∧ RL m' := by
  unfold R_builds_313 at h
  refine ai (r_goto (pc := 313) (tgt := 337) (by decide +kernel : decode k_R_builds.2.1 313 = .ok (.goto (24), 3)) (by decide)) ?_
  exact (R_builds_337_run hk194 hk203 hL h)
set_option maxRecDepth 100000 in
set_option maxHeartbeats 4000000 in
theorem R_builds_281_run {k194 : Int32 → Int32 → Int32 → Int32 → Mem → Option (Unit × Mem)} {k203 : Int32 → Int32 → Int32 → Int32 → Int32 → Mem → Option (Unit × Mem)} {n : Nat} {x1 : Int32} {x2 : Int32} {x3 : Int32} {x4 : Int32} {x5 : Int32} {x6 : Int32} {m m' : Mem} {r : Unit} (hk194 : ∀ (x1 : Int32) (x2 : Int32) (x3 : Int32) (x4 : Int32) (m : Mem) (r : Unit) (m' : Mem), RL m → k194 x1 x2 x3 x4 m = some (r, m') → Run k_R_builds 194 [(0, .ref 0), (1, .int x1), (2, .int x2), (3, .int x3), (4, .int x4)] [] m none m' ∧ RL m') (hk203 : ∀ (x1 : Int32) (x2 : Int32) (x3 : Int32) (x4 : Int32) (x5 : Int32) (m : Mem) (r : Unit) (m' : Mem), RL m → k203 x1 x2 x3 x4 x5 m = some (r, m') → Run k_R_builds 203 [(0, .ref 0), (1, .int x1), (2, .int x2), (3, .int x3), (4, .int x4), (5, .int x5)] [] m none m' ∧ RL m') (hL : RL m) (h : R_builds_281 k194 k203 n x1 x2 x3 x4 x5 x6 m = some (r, m')) : Run k_R_builds 281 [(0, .ref 0), (1, .int x1), (2, .int x2), (3, .int x3), (4, .int x4), (5, .int x5), (6, .int x6)] [] m none m' ∧ RL m' := by
  induction n generalizing x1 x2 x3 x4 x5 x6 m r m' with
  | zero => exact absurd h (by simp [R_builds_281])
  | succ n ih =>
    rw [R_builds_281.eq_2] at h
    refine ai (r_iload (pc := 281) (k := 6) (by decide +kernel : decode k_R_builds.2.1 281 = .ok (.iload 6, 2)) rfl) ?_
    refine ai (r_bipush (pc := 283) (by decide +kernel : decode k_R_builds.2.1 283 = .ok (.bipush (30), 2)) (by decide : _ = (30 : Int32))) ?_
    refine ai (r_iload (pc := 285) (k := 5) (by decide +kernel : decode k_R_builds.2.1 285 = .ok (.iload 5, 2)) rfl) ?_
    refine ai (r_imul (pc := 287) (by decide +kernel : decode k_R_builds.2.1 287 = .ok (.imul, 1))) ?_
    refine ai (p_aload_n (pc := 288) (k := 0) (by decide +kernel : decode k_R_builds.2.1 288 = .ok (.aload_n 0, 1)) rfl rfl) ?_
    refine ai (p_getr (pc := 289) (RR_1561_0 hL) (by decide +kernel : decode k_R_builds.2.1 289 = .ok (.getfield 58, 3)) lg_12_58 (RC_0 hL).1) ?_
    refine ai (r_iload (pc := 292) (k := 5) (by decide +kernel : decode k_R_builds.2.1 292 = .ok (.iload 5, 2)) rfl) ?_
    obtain ⟨g1, h⟩ := gd_some h
    refine ai (p_iald (pc := 294) (by decide +kernel : decode k_R_builds.2.1 294 = .ok (.iaload, 1)) (RC_14 hL).1 (RC_14 hL).2 g1) ?_
    refine ai (r_iadd (pc := 295) (by decide +kernel : decode k_R_builds.2.1 295 = .ok (.iadd, 1))) ?_
    rcases ite_some h with ⟨c2, h⟩ | ⟨c2, h⟩
    · refine ai (r_icmp_ge_t (pc := 296) (tgt := 313) (by decide +kernel : decode k_R_builds.2.1 296 = .ok (.if_icmp .ge (17), 3)) (by decide) c2) ?_
      exact (ai (r_sub [0, 1, 2, 3, 4, 5] rfl) (R_builds_313_run hk194 hk203 hL h))
    · refine ai (r_icmp_ge_f (pc := 296) 313 (by decide +kernel : decode k_R_builds.2.1 296 = .ok (.if_icmp .ge (17), 3)) (by decide) c2) ?_
      refine ai (p_aload_n (pc := 299) (k := 0) (by decide +kernel : decode k_R_builds.2.1 299 = .ok (.aload_n 0, 1)) rfl rfl) ?_
      refine ai (p_getr (pc := 300) (RR_1621_0 hL) (by decide +kernel : decode k_R_builds.2.1 300 = .ok (.getfield 194, 3)) lg_12_194 (RC_0 hL).1) ?_
      refine ai (r_iload (pc := 303) (k := 6) (by decide +kernel : decode k_R_builds.2.1 303 = .ok (.iload 6, 2)) rfl) ?_
      refine ai (r_iconst (pc := 305) (by decide +kernel : decode k_R_builds.2.1 305 = .ok (.iconst 1, 1)) ic_1) ?_
      obtain ⟨g3, h⟩ := gd_some h
      have c4 := (RC_58 hL).1
      have c5 := (RC_58 hL).2
      obtain ⟨m6, hm6, h⟩ := vb_some h
      have hL : RL m6 := by rw [hm6]; exact hL
      refine ai (p_iast (pc := 306) hm6 (by decide +kernel : decode k_R_builds.2.1 306 = .ok (.iastore, 1)) c4 c5 g3) ?_
      obtain ⟨v7, hv7, h⟩ := vb_some h
      refine ai (e_iinc (pc := 307) (k := 6) hv7 ic_1 (by decide +kernel : decode k_R_builds.2.1 307 = .ok (.iinc 6 (1), 3)) rfl (by decide) rfl) ?_
      refine ai (r_goto (pc := 310) (tgt := 281) (by decide +kernel : decode k_R_builds.2.1 310 = .ok (.goto (-29), 3)) (by decide)) ?_
      exact (ai (r_sub [1, 2, 3, 4, 5, 6, 0] rfl) (ih hL h))
set_option maxRecDepth 100000 in
set_option maxHeartbeats 4000000 in
theorem R_builds_259_run {k194 : Int32 → Int32 → Int32 → Int32 → Mem → Option (Unit × Mem)} {k203 : Int32 → Int32 → Int32 → Int32 → Int32 → Mem → Option (Unit × Mem)} {x1 : Int32} {x2 : Int32} {x3 : Int32} {x4 : Int32} {x5 : Int32} {m m' : Mem} {r : Unit} (hk194 : ∀ (x1 : Int32) (x2 : Int32) (x3 : Int32) (x4 : Int32) (m : Mem) (r : Unit) (m' : Mem), RL m → k194 x1 x2 x3 x4 m = some (r, m') → Run k_R_builds 194 [(0, .ref 0), (1, .int x1), (2, .int x2), (3, .int x3), (4, .int x4)] [] m none m' ∧ RL m') (hk203 : ∀ (x1 : Int32) (x2 : Int32) (x3 : Int32) (x4 : Int32) (x5 : Int32) (m : Mem) (r : Unit) (m' : Mem), RL m → k203 x1 x2 x3 x4 x5 m = some (r, m') → Run k_R_builds 203 [(0, .ref 0), (1, .int x1), (2, .int x2), (3, .int x3), (4, .int x4), (5, .int x5)] [] m none m' ∧ RL m') (hL : RL m) (h : R_builds_259 k194 k203 x1 x2 x3 x4 x5 m = some (r, m')) : Run k_R_builds 259 [(0, .ref 0), (1, .int x1), (2, .int x2), (3, .int x3), (4, .int x4), (5, .int x5)] [] m none m' ∧ RL m' := by
  unfold R_builds_259 at h
  refine ai (p_aload_n (pc := 259) (k := 0) (by decide +kernel : decode k_R_builds.2.1 259 = .ok (.aload_n 0, 1)) rfl rfl) ?_
  refine ai (p_getr (pc := 260) (RR_1615_0 hL) (by decide +kernel : decode k_R_builds.2.1 260 = .ok (.getfield 176, 3)) lg_12_176 (RC_0 hL).1) ?_
  refine ai (p_aload_n (pc := 263) (k := 0) (by decide +kernel : decode k_R_builds.2.1 263 = .ok (.aload_n 0, 1)) rfl rfl) ?_
  refine ai (p_getr (pc := 264) (RR_1560_0 hL) (by decide +kernel : decode k_R_builds.2.1 264 = .ok (.getfield 55, 3)) lg_12_55 (RC_0 hL).1) ?_
  refine ai (r_iload (pc := 267) (k := 5) (by decide +kernel : decode k_R_builds.2.1 267 = .ok (.iload 5, 2)) rfl) ?_
  obtain ⟨g1, h⟩ := gd_some h
  refine ai (p_iald (pc := 269) (by decide +kernel : decode k_R_builds.2.1 269 = .ok (.iaload, 1)) (RC_13 hL).1 (RC_13 hL).2 g1) ?_
  obtain ⟨g2, h⟩ := gd_some h
  refine ai (p_zald (pc := 270) (by decide +kernel : decode k_R_builds.2.1 270 = .ok (.baload, 1)) (RC_52 hL).1 (RC_52 hL).2 g2) ?_
  rcases ite_some h with ⟨c3, h⟩ | ⟨c3, h⟩
  · refine ai (r_if_ne_f (pc := 271) 316 (by decide +kernel : decode k_R_builds.2.1 271 = .ok (.ifCond .ne (45), 3)) (by decide) c3) ?_
    refine ai (r_bipush (pc := 274) (by decide +kernel : decode k_R_builds.2.1 274 = .ok (.bipush (30), 2)) (by decide : _ = (30 : Int32))) ?_
    refine ai (r_iload (pc := 276) (k := 5) (by decide +kernel : decode k_R_builds.2.1 276 = .ok (.iload 5, 2)) rfl) ?_
    refine ai (r_imul (pc := 278) (by decide +kernel : decode k_R_builds.2.1 278 = .ok (.imul, 1))) ?_
    obtain ⟨v4, hv4, h⟩ := vb_some h
    refine ai (e_istore (pc := 279) hv4 (by decide +kernel : decode k_R_builds.2.1 279 = .ok (.istore 6, 2)) (by decide) rfl) ?_
    exact (ai (r_sub [1, 2, 3, 4, 5, 6, 0] rfl) (R_builds_281_run hk194 hk203 hL h))
  · refine ai (r_if_ne_t (pc := 271) (tgt := 316) (by decide +kernel : decode k_R_builds.2.1 271 = .ok (.ifCond .ne (45), 3)) (by decide) c3) ?_
    refine ai (p_aload_n (pc := 316) (k := 0) (by decide +kernel : decode k_R_builds.2.1 316 = .ok (.aload_n 0, 1)) rfl rfl) ?_
    refine ai (r_iload_n (pc := 317) (k := 1) (by decide +kernel : decode k_R_builds.2.1 317 = .ok (.iload_n 1, 1)) rfl rfl) ?_
    refine ai (r_iload_n (pc := 318) (k := 2) (by decide +kernel : decode k_R_builds.2.1 318 = .ok (.iload_n 2, 1)) rfl rfl) ?_
    refine ai (r_iload_n (pc := 319) (k := 3) (by decide +kernel : decode k_R_builds.2.1 319 = .ok (.iload_n 3, 1)) rfl rfl) ?_
    obtain ⟨r5, m6, hr5, h⟩ := bn_some h
    have q7 := R_stands_run hL hr5
    have c8 := (RC_0 hL).1
    have hL := q7.2
    refine ai (q_callV (pc := 320) (As := [.int x1, .int x2, .int x3]) (st := []) (st2 := []) (b := 0) rfl rfl (by decide +kernel : decode k_R_builds.2.1 320 = .ok (.invokevirtual 491, 3)) lc_12_491 mo_R_stands ⟨Nat.le_of_ble_eq_true rfl, Nat.le_of_ble_eq_true rfl⟩ (Nat.le_of_ble_eq_true rfl) (Nat.le_of_ble_eq_true rfl) c8 q7.1) ?_
    refine ai (p_aload_n (pc := 323) (k := 0) (by decide +kernel : decode k_R_builds.2.1 323 = .ok (.aload_n 0, 1)) rfl rfl) ?_
    refine ai (p_aload_n (pc := 324) (k := 0) (by decide +kernel : decode k_R_builds.2.1 324 = .ok (.aload_n 0, 1)) rfl rfl) ?_
    refine ai (p_getr (pc := 325) (RR_1560_0 hL) (by decide +kernel : decode k_R_builds.2.1 325 = .ok (.getfield 55, 3)) lg_12_55 (RC_0 hL).1) ?_
    refine ai (r_iload (pc := 328) (k := 5) (by decide +kernel : decode k_R_builds.2.1 328 = .ok (.iload 5, 2)) rfl) ?_
    obtain ⟨g9, h⟩ := gd_some h
    refine ai (p_iald (pc := 330) (by decide +kernel : decode k_R_builds.2.1 330 = .ok (.iaload, 1)) (RC_13 hL).1 (RC_13 hL).2 g9) ?_
    refine ai (r_iload (pc := 331) (k := 5) (by decide +kernel : decode k_R_builds.2.1 331 = .ok (.iload 5, 2)) rfl) ?_
    refine ai (r_iload_n (pc := 333) (k := 3) (by decide +kernel : decode k_R_builds.2.1 333 = .ok (.iload_n 3, 1)) rfl rfl) ?_
    obtain ⟨r10, m11, hr10, h⟩ := bn_some h
    have q12 := R_adds_run hL hr10
    have c13 := (RC_0 hL).1
    have hL := q12.2
    refine ai (q_callV (pc := 334) (As := [.int (aI m6 13 (ix x5)), .int x5, .int x3]) (st := []) (st2 := []) (b := 0) rfl rfl (by decide +kernel : decode k_R_builds.2.1 334 = .ok (.invokevirtual 487, 3)) lc_12_487 mo_R_adds ⟨Nat.le_of_ble_eq_true rfl, Nat.le_of_ble_eq_true rfl⟩ (Nat.le_of_ble_eq_true rfl) (Nat.le_of_ble_eq_true rfl) c13 q12.1) ?_
    exact (R_builds_337_run hk194 hk203 hL h)
set_option maxRecDepth 100000 in
set_option maxHeartbeats 4000000 in
theorem R_builds_343_run {k194 : Int32 → Int32 → Int32 → Int32 → Mem → Option (Unit × Mem)} {x1 : Int32} {x2 : Int32} {x3 : Int32} {x4 : Int32} {m m' : Mem} {r : Unit} (hk194 : ∀ (x1 : Int32) (x2 : Int32) (x3 : Int32) (x4 : Int32) (m : Mem) (r : Unit) (m' : Mem), RL m → k194 x1 x2 x3 x4 m = some (r, m') → Run k_R_builds 194 [(0, .ref 0), (1, .int x1), (2, .int x2), (3, .int x3), (4, .int x4)] [] m none m' ∧ RL m') (hL : RL m) (h : R_builds_343 k194 x1 x2 x3 x4 m = some (r, m')) : Run k_R_builds 343 [(0, .ref 0), (1, .int x1), (2, .int x2), (3, .int x3), (4, .int x4)] [] m none m' ∧ RL m' := by
  unfold R_builds_343 at h
  obtain ⟨v1, hv1, h⟩ := vb_some h
  refine ai (e_iinc (pc := 343) (k := 4) hv1 ic_1 (by decide +kernel : decode k_R_builds.2.1 343 = .ok (.iinc 4 (1), 3)) rfl (by decide) rfl) ?_
  refine ai (r_goto (pc := 346) (tgt := 194) (by decide +kernel : decode k_R_builds.2.1 346 = .ok (.goto (-152), 3)) (by decide)) ?_
  exact (ai (r_sub [1, 2, 3, 4, 0] rfl) (hk194 x1 x2 x3 v1 m _ _ hL h))
set_option maxRecDepth 100000 in
set_option maxHeartbeats 4000000 in
theorem R_builds_203_run {k194 : Int32 → Int32 → Int32 → Int32 → Mem → Option (Unit × Mem)} {n : Nat} {x1 : Int32} {x2 : Int32} {x3 : Int32} {x4 : Int32} {x5 : Int32} {m m' : Mem} {r : Unit} (hk194 : ∀ (x1 : Int32) (x2 : Int32) (x3 : Int32) (x4 : Int32) (m : Mem) (r : Unit) (m' : Mem), RL m → k194 x1 x2 x3 x4 m = some (r, m') → Run k_R_builds 194 [(0, .ref 0), (1, .int x1), (2, .int x2), (3, .int x3), (4, .int x4)] [] m none m' ∧ RL m') (hL : RL m) (h : R_builds_203 k194 n x1 x2 x3 x4 x5 m = some (r, m')) : Run k_R_builds 203 [(0, .ref 0), (1, .int x1), (2, .int x2), (3, .int x3), (4, .int x4), (5, .int x5)] [] m none m' ∧ RL m' := by
  induction n generalizing x1 x2 x3 x4 x5 m r m' with
  | zero => exact absurd h (by simp [R_builds_203])
  | succ n ih =>
    rw [R_builds_203.eq_2] at h
    refine ai (r_iload (pc := 203) (k := 5) (by decide +kernel : decode k_R_builds.2.1 203 = .ok (.iload 5, 2)) rfl) ?_
    refine ai (p_aload_n (pc := 205) (k := 0) (by decide +kernel : decode k_R_builds.2.1 205 = .ok (.aload_n 0, 1)) rfl rfl) ?_
    refine ai (r_getI (pc := 206) (by decide +kernel : decode k_R_builds.2.1 206 = .ok (.getfield 341, 3)) lg_12_341 (by decide) (RC_0 hL).1) ?_
    rcases ite_some h with ⟨c1, h⟩ | ⟨c1, h⟩
    · refine ai (r_icmp_ge_t (pc := 209) (tgt := 343) (by decide +kernel : decode k_R_builds.2.1 209 = .ok (.if_icmp .ge (134), 3)) (by decide) c1) ?_
      exact (ai (r_sub [0, 1, 2, 3, 4] rfl) (R_builds_343_run hk194 hL h))
    · refine ai (r_icmp_ge_f (pc := 209) 343 (by decide +kernel : decode k_R_builds.2.1 209 = .ok (.if_icmp .ge (134), 3)) (by decide) c1) ?_
      refine ai (p_aload_n (pc := 212) (k := 0) (by decide +kernel : decode k_R_builds.2.1 212 = .ok (.aload_n 0, 1)) rfl rfl) ?_
      refine ai (p_getr (pc := 213) (RR_1615_0 hL) (by decide +kernel : decode k_R_builds.2.1 213 = .ok (.getfield 176, 3)) lg_12_176 (RC_0 hL).1) ?_
      refine ai (r_iload (pc := 216) (k := 5) (by decide +kernel : decode k_R_builds.2.1 216 = .ok (.iload 5, 2)) rfl) ?_
      obtain ⟨g2, h⟩ := gd_some h
      refine ai (p_zald (pc := 218) (by decide +kernel : decode k_R_builds.2.1 218 = .ok (.baload, 1)) (RC_52 hL).1 (RC_52 hL).2 g2) ?_
      rcases ite_some h with ⟨c3, h⟩ | ⟨c3, h⟩
      · refine ai (r_if_eq_t (pc := 219) (tgt := 337) (by decide +kernel : decode k_R_builds.2.1 219 = .ok (.ifCond .eq (118), 3)) (by decide) c3) ?_
        exact (R_builds_337_run hk194 (fun _ _ _ _ _ _ _ _ q1 q3 => ih q1 q3) hL h)
      · refine ai (r_if_eq_f (pc := 219) 337 (by decide +kernel : decode k_R_builds.2.1 219 = .ok (.ifCond .eq (118), 3)) (by decide) c3) ?_
        refine ai (p_aload_n (pc := 222) (k := 0) (by decide +kernel : decode k_R_builds.2.1 222 = .ok (.aload_n 0, 1)) rfl rfl) ?_
        refine ai (p_getr (pc := 223) (RR_1558_0 hL) (by decide +kernel : decode k_R_builds.2.1 223 = .ok (.getfield 49, 3)) lg_12_49 (RC_0 hL).1) ?_
        refine ai (r_iload (pc := 226) (k := 5) (by decide +kernel : decode k_R_builds.2.1 226 = .ok (.iload 5, 2)) rfl) ?_
        obtain ⟨g4, h⟩ := gd_some h
        refine ai (p_iald (pc := 228) (by decide +kernel : decode k_R_builds.2.1 228 = .ok (.iaload, 1)) (RC_11 hL).1 (RC_11 hL).2 g4) ?_
        refine ai (r_iload (pc := 229) (k := 4) (by decide +kernel : decode k_R_builds.2.1 229 = .ok (.iload 4, 2)) rfl) ?_
        rcases ite_some h with ⟨c5, h⟩ | ⟨c5, h⟩
        · refine ai (r_icmp_ne_f (pc := 231) 337 (by decide +kernel : decode k_R_builds.2.1 231 = .ok (.if_icmp .ne (106), 3)) (by decide) c5) ?_
          refine ai (p_aload_n (pc := 234) (k := 0) (by decide +kernel : decode k_R_builds.2.1 234 = .ok (.aload_n 0, 1)) rfl rfl) ?_
          refine ai (p_getr (pc := 235) (RR_1555_0 hL) (by decide +kernel : decode k_R_builds.2.1 235 = .ok (.getfield 40, 3)) lg_12_40 (RC_0 hL).1) ?_
          refine ai (r_iload (pc := 238) (k := 5) (by decide +kernel : decode k_R_builds.2.1 238 = .ok (.iload 5, 2)) rfl) ?_
          obtain ⟨g6, h⟩ := gd_some h
          refine ai (p_iald (pc := 240) (by decide +kernel : decode k_R_builds.2.1 240 = .ok (.iaload, 1)) (RC_8 hL).1 (RC_8 hL).2 g6) ?_
          refine ai (r_iconst (pc := 241) (by decide +kernel : decode k_R_builds.2.1 241 = .ok (.iconst 1, 1)) ic_1) ?_
          rcases ite_some h with ⟨c7, h⟩ | ⟨c7, h⟩
          · refine ai (r_icmp_eq_t (pc := 242) (tgt := 259) (by decide +kernel : decode k_R_builds.2.1 242 = .ok (.if_icmp .eq (17), 3)) (by decide) c7) ?_
            exact (R_builds_259_run hk194 (fun _ _ _ _ _ _ _ _ q1 q3 => ih q1 q3) hL h)
          · refine ai (r_icmp_eq_f (pc := 242) 259 (by decide +kernel : decode k_R_builds.2.1 242 = .ok (.if_icmp .eq (17), 3)) (by decide) c7) ?_
            refine ai (p_aload_n (pc := 245) (k := 0) (by decide +kernel : decode k_R_builds.2.1 245 = .ok (.aload_n 0, 1)) rfl rfl) ?_
            refine ai (p_getr (pc := 246) (RR_1555_0 hL) (by decide +kernel : decode k_R_builds.2.1 246 = .ok (.getfield 40, 3)) lg_12_40 (RC_0 hL).1) ?_
            refine ai (r_iload (pc := 249) (k := 5) (by decide +kernel : decode k_R_builds.2.1 249 = .ok (.iload 5, 2)) rfl) ?_
            obtain ⟨g8, h⟩ := gd_some h
            refine ai (p_iald (pc := 251) (by decide +kernel : decode k_R_builds.2.1 251 = .ok (.iaload, 1)) (RC_8 hL).1 (RC_8 hL).2 g8) ?_
            refine ai (r_iconst (pc := 252) (by decide +kernel : decode k_R_builds.2.1 252 = .ok (.iconst 2, 1)) ic_2) ?_
            rcases ite_some h with ⟨c9, h⟩ | ⟨c9, h⟩
            · refine ai (r_icmp_eq_t (pc := 253) (tgt := 259) (by decide +kernel : decode k_R_builds.2.1 253 = .ok (.if_icmp .eq (6), 3)) (by decide) c9) ?_
              exact (R_builds_259_run hk194 (fun _ _ _ _ _ _ _ _ q1 q3 => ih q1 q3) hL h)
            · refine ai (r_icmp_eq_f (pc := 253) 259 (by decide +kernel : decode k_R_builds.2.1 253 = .ok (.if_icmp .eq (6), 3)) (by decide) c9) ?_
              refine ai (r_goto (pc := 256) (tgt := 337) (by decide +kernel : decode k_R_builds.2.1 256 = .ok (.goto (81), 3)) (by decide)) ?_
              exact (R_builds_337_run hk194 (fun _ _ _ _ _ _ _ _ q1 q3 => ih q1 q3) hL h)
        · refine ai (r_icmp_ne_t (pc := 231) (tgt := 337) (by decide +kernel : decode k_R_builds.2.1 231 = .ok (.if_icmp .ne (106), 3)) (by decide) c5) ?_
          exact (R_builds_337_run hk194 (fun _ _ _ _ _ _ _ _ q1 q3 => ih q1 q3) hL h)
set_option maxRecDepth 100000 in
set_option maxHeartbeats 4000000 in
theorem R_builds_194_run {n : Nat} {x1 : Int32} {x2 : Int32} {x3 : Int32} {x4 : Int32} {m m' : Mem} {r : Unit} (hL : RL m) (h : R_builds_194 n x1 x2 x3 x4 m = some (r, m')) : Run k_R_builds 194 [(0, .ref 0), (1, .int x1), (2, .int x2), (3, .int x3), (4, .int x4)] [] m none m' ∧ RL m' := by
  induction n generalizing x1 x2 x3 x4 m r m' with
  | zero => exact absurd h (by simp [R_builds_194])
  | succ n ih =>
    rw [R_builds_194.eq_2] at h
    refine ai (r_iload (pc := 194) (k := 4) (by decide +kernel : decode k_R_builds.2.1 194 = .ok (.iload 4, 2)) rfl) ?_
    refine ai (r_iload_n (pc := 196) (k := 1) (by decide +kernel : decode k_R_builds.2.1 196 = .ok (.iload_n 1, 1)) rfl rfl) ?_
    rcases ite_some h with ⟨c1, h⟩ | ⟨c1, h⟩
    · refine ai (r_icmp_gt_t (pc := 197) (tgt := 349) (by decide +kernel : decode k_R_builds.2.1 197 = .ok (.if_icmp .gt (152), 3)) (by decide) c1) ?_
      cases h
      exact ⟨r_vret rfl (by decide +kernel : decode k_R_builds.2.1 349 = .ok (.return_, 1)), hL⟩
    · refine ai (r_icmp_gt_f (pc := 197) 349 (by decide +kernel : decode k_R_builds.2.1 197 = .ok (.if_icmp .gt (152), 3)) (by decide) c1) ?_
      refine ai (r_iconst (pc := 200) (by decide +kernel : decode k_R_builds.2.1 200 = .ok (.iconst 0, 1)) ic_0) ?_
      refine ai (e_istore (pc := 201) rfl (by decide +kernel : decode k_R_builds.2.1 201 = .ok (.istore 5, 2)) (by decide) rfl) ?_
      exact (ai (r_sub [1, 2, 3, 4, 5, 0] rfl) (R_builds_203_run (fun _ _ _ _ _ _ _ q1 q3 => ih q1 q3) hL h))
set_option maxRecDepth 100000 in
set_option maxHeartbeats 4000000 in
theorem R_builds_191_run {x1 : Int32} {x2 : Int32} {x3 : Int32} {m m' : Mem} {r : Unit} (hL : RL m) (h : R_builds_191 x1 x2 x3 m = some (r, m')) : Run k_R_builds 191 [(0, .ref 0), (1, .int x1), (2, .int x2), (3, .int x3)] [] m none m' ∧ RL m' := by
  unfold R_builds_191 at h
  refine ai (r_iconst (pc := 191) (by decide +kernel : decode k_R_builds.2.1 191 = .ok (.iconst 0, 1)) ic_0) ?_
  refine ai (e_istore (pc := 192) rfl (by decide +kernel : decode k_R_builds.2.1 192 = .ok (.istore 4, 2)) (by decide) rfl) ?_
  exact (ai (r_sub [1, 2, 3, 4, 0] rfl) (R_builds_194_run hL h))
set_option maxRecDepth 100000 in
set_option maxHeartbeats 4000000 in
theorem R_builds_43_run {n : Nat} {x1 : Int32} {x2 : Int32} {x3 : Int32} {x4 : Int32} {m m' : Mem} {r : Unit} (hL : RL m) (h : R_builds_43 n x1 x2 x3 x4 m = some (r, m')) : Run k_R_builds 43 [(0, .ref 0), (1, .int x1), (2, .int x2), (3, .int x3), (4, .int x4)] [] m none m' ∧ RL m' := by
  induction n generalizing x1 x2 x3 x4 m r m' with
  | zero => exact absurd h (by simp [R_builds_43])
  | succ n ih =>
    rw [R_builds_43.eq_2] at h
    refine ai (r_iload (pc := 43) (k := 4) (by decide +kernel : decode k_R_builds.2.1 43 = .ok (.iload 4, 2)) rfl) ?_
    refine ai (p_aload_n (pc := 45) (k := 0) (by decide +kernel : decode k_R_builds.2.1 45 = .ok (.aload_n 0, 1)) rfl rfl) ?_
    refine ai (r_getI (pc := 46) (by decide +kernel : decode k_R_builds.2.1 46 = .ok (.getfield 341, 3)) lg_12_341 (by decide) (RC_0 hL).1) ?_
    rcases ite_some h with ⟨c1, h⟩ | ⟨c1, h⟩
    · refine ai (r_icmp_ge_t (pc := 49) (tgt := 191) (by decide +kernel : decode k_R_builds.2.1 49 = .ok (.if_icmp .ge (142), 3)) (by decide) c1) ?_
      exact (ai (r_sub [0, 1, 2, 3] rfl) (R_builds_191_run hL h))
    · refine ai (r_icmp_ge_f (pc := 49) 191 (by decide +kernel : decode k_R_builds.2.1 49 = .ok (.if_icmp .ge (142), 3)) (by decide) c1) ?_
      refine ai (p_aload_n (pc := 52) (k := 0) (by decide +kernel : decode k_R_builds.2.1 52 = .ok (.aload_n 0, 1)) rfl rfl) ?_
      refine ai (p_getr (pc := 53) (RR_1615_0 hL) (by decide +kernel : decode k_R_builds.2.1 53 = .ok (.getfield 176, 3)) lg_12_176 (RC_0 hL).1) ?_
      refine ai (r_iload (pc := 56) (k := 4) (by decide +kernel : decode k_R_builds.2.1 56 = .ok (.iload 4, 2)) rfl) ?_
      refine ai (p_aload_n (pc := 58) (k := 0) (by decide +kernel : decode k_R_builds.2.1 58 = .ok (.aload_n 0, 1)) rfl rfl) ?_
      refine ai (r_iload (pc := 59) (k := 4) (by decide +kernel : decode k_R_builds.2.1 59 = .ok (.iload 4, 2)) rfl) ?_
      refine ai (r_iload_n (pc := 61) (k := 1) (by decide +kernel : decode k_R_builds.2.1 61 = .ok (.iload_n 1, 1)) rfl rfl) ?_
      refine ai (r_iload_n (pc := 62) (k := 2) (by decide +kernel : decode k_R_builds.2.1 62 = .ok (.iload_n 2, 1)) rfl rfl) ?_
      refine ai (r_iload_n (pc := 63) (k := 3) (by decide +kernel : decode k_R_builds.2.1 63 = .ok (.iload_n 3, 1)) rfl rfl) ?_
      obtain ⟨r2, m3, hr2, h⟩ := bn_some h
      have q4 := R_isIn_run hL hr2
      have c5 := (RC_0 hL).1
      have hL := q4.2
      refine ai (q_callV (pc := 64) (As := [.int x4, .int x1, .int x2, .int x3]) (st := [.int x4, .ref 52]) (st2 := [.int r2, .int x4, .ref 52]) (b := 0) rfl rfl (by decide +kernel : decode k_R_builds.2.1 64 = .ok (.invokevirtual 483, 3)) lc_12_483 mo_R_isIn ⟨Nat.le_of_ble_eq_true rfl, Nat.le_of_ble_eq_true rfl⟩ (Nat.le_of_ble_eq_true rfl) (Nat.le_of_ble_eq_true rfl) c5 q4.1) ?_
      obtain ⟨g6, h⟩ := gd_some h
      obtain ⟨z7, h⟩ := gz_some h
      have c8 := (RC_52 hL).1
      have c9 := (RC_52 hL).2
      obtain ⟨m10, hm10, h⟩ := vb_some h
      have hL : RL m10 := by rw [hm10]; exact hL
      refine ai (p_zast (pc := 67) hm10 z7 (by decide +kernel : decode k_R_builds.2.1 67 = .ok (.bastore, 1)) c8 c9 g6) ?_
      refine ai (p_aload_n (pc := 68) (k := 0) (by decide +kernel : decode k_R_builds.2.1 68 = .ok (.aload_n 0, 1)) rfl rfl) ?_
      refine ai (p_getr (pc := 69) (RR_1616_0 hL) (by decide +kernel : decode k_R_builds.2.1 69 = .ok (.getfield 179, 3)) lg_12_179 (RC_0 hL).1) ?_
      refine ai (r_iload (pc := 72) (k := 4) (by decide +kernel : decode k_R_builds.2.1 72 = .ok (.iload 4, 2)) rfl) ?_
      refine ai (r_iconst (pc := 74) (by decide +kernel : decode k_R_builds.2.1 74 = .ok (.iconst 0, 1)) ic_0) ?_
      obtain ⟨g11, h⟩ := gd_some h
      have c12 := (RC_53 hL).1
      have c13 := (RC_53 hL).2
      obtain ⟨m14, hm14, h⟩ := vb_some h
      have hL : RL m14 := by rw [hm14]; exact hL
      refine ai (p_iast (pc := 75) hm14 (by decide +kernel : decode k_R_builds.2.1 75 = .ok (.iastore, 1)) c12 c13 g11) ?_
      refine ai (p_aload_n (pc := 76) (k := 0) (by decide +kernel : decode k_R_builds.2.1 76 = .ok (.aload_n 0, 1)) rfl rfl) ?_
      refine ai (p_getr (pc := 77) (RR_1619_0 hL) (by decide +kernel : decode k_R_builds.2.1 77 = .ok (.getfield 188, 3)) lg_12_188 (RC_0 hL).1) ?_
      refine ai (r_iload (pc := 80) (k := 4) (by decide +kernel : decode k_R_builds.2.1 80 = .ok (.iload 4, 2)) rfl) ?_
      refine ai (r_iconst (pc := 82) (by decide +kernel : decode k_R_builds.2.1 82 = .ok (.iconst 0, 1)) ic_0) ?_
      obtain ⟨g15, h⟩ := gd_some h
      have c16 := (RC_56 hL).1
      have c17 := (RC_56 hL).2
      obtain ⟨m18, hm18, h⟩ := vb_some h
      have hL : RL m18 := by rw [hm18]; exact hL
      refine ai (p_iast (pc := 83) hm18 (by decide +kernel : decode k_R_builds.2.1 83 = .ok (.iastore, 1)) c16 c17 g15) ?_
      refine ai (p_aload_n (pc := 84) (k := 0) (by decide +kernel : decode k_R_builds.2.1 84 = .ok (.aload_n 0, 1)) rfl rfl) ?_
      refine ai (p_getr (pc := 85) (RR_1620_0 hL) (by decide +kernel : decode k_R_builds.2.1 85 = .ok (.getfield 191, 3)) lg_12_191 (RC_0 hL).1) ?_
      refine ai (r_iload (pc := 88) (k := 4) (by decide +kernel : decode k_R_builds.2.1 88 = .ok (.iload 4, 2)) rfl) ?_
      refine ai (r_iconst (pc := 90) (by decide +kernel : decode k_R_builds.2.1 90 = .ok (.iconst 1, 1)) ic_1) ?_
      obtain ⟨g19, h⟩ := gd_some h
      have c20 := (RC_57 hL).1
      have c21 := (RC_57 hL).2
      obtain ⟨m22, hm22, h⟩ := vb_some h
      have hL : RL m22 := by rw [hm22]; exact hL
      refine ai (p_iast (pc := 91) hm22 (by decide +kernel : decode k_R_builds.2.1 91 = .ok (.iastore, 1)) c20 c21 g19) ?_
      refine ai (r_bipush (pc := 92) (by decide +kernel : decode k_R_builds.2.1 92 = .ok (.bipush (30), 2)) (by decide : _ = (30 : Int32))) ?_
      refine ai (r_iload (pc := 94) (k := 4) (by decide +kernel : decode k_R_builds.2.1 94 = .ok (.iload 4, 2)) rfl) ?_
      refine ai (r_imul (pc := 96) (by decide +kernel : decode k_R_builds.2.1 96 = .ok (.imul, 1))) ?_
      obtain ⟨v23, hv23, h⟩ := vb_some h
      refine ai (e_istore (pc := 97) hv23 (by decide +kernel : decode k_R_builds.2.1 97 = .ok (.istore 5, 2)) (by decide) rfl) ?_
      exact (ai (r_sub [1, 2, 3, 4, 5, 0] rfl) (R_builds_99_run (fun _ _ _ _ _ _ _ q1 q3 => ih q1 q3) hL h))
set_option maxRecDepth 100000 in
set_option maxHeartbeats 4000000 in
theorem R_builds_25_run {x1 : Int32} {x2 : Int32} {x3 : Int32} {m m' : Mem} {r : Unit} (hL : RL m) (h : R_builds_25 x1 x2 x3 m = some (r, m')) : Run k_R_builds 25 [(0, .ref 0), (1, .int x1), (2, .int x2), (3, .int x3)] [] m none m' ∧ RL m' := by
  unfold R_builds_25 at h
  refine ai (p_aload_n (pc := 25) (k := 0) (by decide +kernel : decode k_R_builds.2.1 25 = .ok (.aload_n 0, 1)) rfl rfl) ?_
  refine ai (r_iload_n (pc := 26) (k := 1) (by decide +kernel : decode k_R_builds.2.1 26 = .ok (.iload_n 1, 1)) rfl rfl) ?_
  have c1 := (RC_0 hL).1
  obtain ⟨m2, hm2, h⟩ := vb_some h
  have hL : RL m2 := by rw [hm2]; exact hL
  refine ai (p_putI (pc := 27) hm2 (by decide +kernel : decode k_R_builds.2.1 27 = .ok (.putfield 173, 3)) lp_12_173 c1) ?_
  refine ai (p_aload_n (pc := 30) (k := 0) (by decide +kernel : decode k_R_builds.2.1 30 = .ok (.aload_n 0, 1)) rfl rfl) ?_
  refine ai (r_iload_n (pc := 31) (k := 2) (by decide +kernel : decode k_R_builds.2.1 31 = .ok (.iload_n 2, 1)) rfl rfl) ?_
  have c3 := (RC_0 hL).1
  obtain ⟨m4, hm4, h⟩ := vb_some h
  have hL : RL m4 := by rw [hm4]; exact hL
  refine ai (p_putI (pc := 32) hm4 (by decide +kernel : decode k_R_builds.2.1 32 = .ok (.putfield 477, 3)) lp_12_477 c3) ?_
  refine ai (p_aload_n (pc := 35) (k := 0) (by decide +kernel : decode k_R_builds.2.1 35 = .ok (.aload_n 0, 1)) rfl rfl) ?_
  refine ai (r_iload_n (pc := 36) (k := 3) (by decide +kernel : decode k_R_builds.2.1 36 = .ok (.iload_n 3, 1)) rfl rfl) ?_
  have c5 := (RC_0 hL).1
  obtain ⟨m6, hm6, h⟩ := vb_some h
  have hL : RL m6 := by rw [hm6]; exact hL
  refine ai (p_putI (pc := 37) hm6 (by decide +kernel : decode k_R_builds.2.1 37 = .ok (.putfield 480, 3)) lp_12_480 c5) ?_
  refine ai (r_iconst (pc := 40) (by decide +kernel : decode k_R_builds.2.1 40 = .ok (.iconst 0, 1)) ic_0) ?_
  refine ai (e_istore (pc := 41) rfl (by decide +kernel : decode k_R_builds.2.1 41 = .ok (.istore 4, 2)) (by decide) rfl) ?_
  exact (ai (r_sub [1, 2, 3, 4, 0] rfl) (R_builds_43_run hL h))
set_option maxRecDepth 100000 in
set_option maxHeartbeats 4000000 in
theorem R_builds_run {x1 : Int32} {x2 : Int32} {x3 : Int32} {m m' : Mem} {r : Unit} (hL : RL m) (h : R_builds x1 x2 x3 m = some (r, m')) : Run k_R_builds 0 [(0, .ref 0), (1, .int x1), (2, .int x2), (3, .int x3)] [] m none m' ∧ RL m' := by
  unfold R_builds at h
  refine ai (p_aload_n (pc := 0) (k := 0) (by decide +kernel : decode k_R_builds.2.1 0 = .ok (.aload_n 0, 1)) rfl rfl) ?_
  refine ai (r_getI (pc := 1) (by decide +kernel : decode k_R_builds.2.1 1 = .ok (.getfield 173, 3)) lg_12_173 (by decide) (RC_0 hL).1) ?_
  refine ai (r_iload_n (pc := 4) (k := 1) (by decide +kernel : decode k_R_builds.2.1 4 = .ok (.iload_n 1, 1)) rfl rfl) ?_
  rcases ite_some h with ⟨c1, h⟩ | ⟨c1, h⟩
  · refine ai (r_icmp_ne_f (pc := 5) 25 (by decide +kernel : decode k_R_builds.2.1 5 = .ok (.if_icmp .ne (20), 3)) (by decide) c1) ?_
    refine ai (p_aload_n (pc := 8) (k := 0) (by decide +kernel : decode k_R_builds.2.1 8 = .ok (.aload_n 0, 1)) rfl rfl) ?_
    refine ai (r_getI (pc := 9) (by decide +kernel : decode k_R_builds.2.1 9 = .ok (.getfield 477, 3)) lg_12_477 (by decide) (RC_0 hL).1) ?_
    refine ai (r_iload_n (pc := 12) (k := 2) (by decide +kernel : decode k_R_builds.2.1 12 = .ok (.iload_n 2, 1)) rfl rfl) ?_
    rcases ite_some h with ⟨c2, h⟩ | ⟨c2, h⟩
    · refine ai (r_icmp_ne_f (pc := 13) 25 (by decide +kernel : decode k_R_builds.2.1 13 = .ok (.if_icmp .ne (12), 3)) (by decide) c2) ?_
      refine ai (p_aload_n (pc := 16) (k := 0) (by decide +kernel : decode k_R_builds.2.1 16 = .ok (.aload_n 0, 1)) rfl rfl) ?_
      refine ai (r_getI (pc := 17) (by decide +kernel : decode k_R_builds.2.1 17 = .ok (.getfield 480, 3)) lg_12_480 (by decide) (RC_0 hL).1) ?_
      refine ai (r_iload_n (pc := 20) (k := 3) (by decide +kernel : decode k_R_builds.2.1 20 = .ok (.iload_n 3, 1)) rfl rfl) ?_
      rcases ite_some h with ⟨c3, h⟩ | ⟨c3, h⟩
      · refine ai (r_icmp_ne_f (pc := 21) 25 (by decide +kernel : decode k_R_builds.2.1 21 = .ok (.if_icmp .ne (4), 3)) (by decide) c3) ?_
        cases h
        exact ⟨r_vret rfl (by decide +kernel : decode k_R_builds.2.1 24 = .ok (.return_, 1)), hL⟩
      · refine ai (r_icmp_ne_t (pc := 21) (tgt := 25) (by decide +kernel : decode k_R_builds.2.1 21 = .ok (.if_icmp .ne (4), 3)) (by decide) c3) ?_
        exact (R_builds_25_run hL h)
    · refine ai (r_icmp_ne_t (pc := 13) (tgt := 25) (by decide +kernel : decode k_R_builds.2.1 13 = .ok (.if_icmp .ne (12), 3)) (by decide) c2) ?_
      exact (R_builds_25_run hL h)
  · refine ai (r_icmp_ne_t (pc := 5) (tgt := 25) (by decide +kernel : decode k_R_builds.2.1 5 = .ok (.if_icmp .ne (20), 3)) (by decide) c1) ?_
    exact (R_builds_25_run hL h)
set_option maxRecDepth 100000 in
set_option maxHeartbeats 4000000 in
theorem R_fate_run {x1 : Int32} {x2 : Int32} {x3 : Int32} {x4 : Int32} {x5 : Int32} {m m' : Mem} {r : Int32} (hL : RL m) (h : R_fate x1 x2 x3 x4 x5 m = some (r, m')) : Run k_R_fate 0 [(0, .ref 0), (1, .int x1), (2, .int x2), (3, .int x3), (4, .int x4), (5, .int x5)] [] m (some (.int r)) m' ∧ RL m' := by
  unfold R_fate at h
  refine ai (p_aload_n (pc := 0) (k := 0) (by decide +kernel : decode k_R_fate.2.1 0 = .ok (.aload_n 0, 1)) rfl rfl) ?_
  refine ai (r_iload_n (pc := 1) (k := 1) (by decide +kernel : decode k_R_fate.2.1 1 = .ok (.iload_n 1, 1)) rfl rfl) ?_
  refine ai (r_iload_n (pc := 2) (k := 3) (by decide +kernel : decode k_R_fate.2.1 2 = .ok (.iload_n 3, 1)) rfl rfl) ?_
  refine ai (r_iload (pc := 3) (k := 4) (by decide +kernel : decode k_R_fate.2.1 3 = .ok (.iload 4, 2)) rfl) ?_
  refine ai (r_iload (pc := 5) (k := 5) (by decide +kernel : decode k_R_fate.2.1 5 = .ok (.iload 5, 2)) rfl) ?_
  obtain ⟨r1, m2, hr1, h⟩ := bn_some h
  have q3 := R_isAsked_run hL hr1
  have c4 := (RC_0 hL).1
  have hL := q3.2
  refine ai (q_callV (pc := 7) (As := [.int x1, .int x3, .int x4, .int x5]) (st := []) (st2 := [.int r1]) (b := 0) rfl rfl (by decide +kernel : decode k_R_fate.2.1 7 = .ok (.invokevirtual 521, 3)) lc_12_521 mo_R_isAsked ⟨Nat.le_of_ble_eq_true rfl, Nat.le_of_ble_eq_true rfl⟩ (Nat.le_of_ble_eq_true rfl) (Nat.le_of_ble_eq_true rfl) c4 q3.1) ?_
  rcases ite_some h with ⟨c5, h⟩ | ⟨c5, h⟩
  · refine ai (r_if_eq_t (pc := 10) (tgt := 34) (by decide +kernel : decode k_R_fate.2.1 10 = .ok (.ifCond .eq (24), 3)) (by decide) c5) ?_
    refine ai (r_iconst (pc := 34) (by decide +kernel : decode k_R_fate.2.1 34 = .ok (.iconst (-1), 1)) ic_m1) ?_
    cases h
    exact ⟨r_iret rfl (by decide +kernel : decode k_R_fate.2.1 35 = .ok (.ireturn, 1)), hL⟩
  · refine ai (r_if_eq_f (pc := 10) 34 (by decide +kernel : decode k_R_fate.2.1 10 = .ok (.ifCond .eq (24), 3)) (by decide) c5) ?_
    refine ai (r_iload_n (pc := 13) (k := 2) (by decide +kernel : decode k_R_fate.2.1 13 = .ok (.iload_n 2, 1)) rfl rfl) ?_
    refine ai (r_iconst (pc := 14) (by decide +kernel : decode k_R_fate.2.1 14 = .ok (.iconst 0, 1)) ic_0) ?_
    refine ai (p_aload_n (pc := 15) (k := 0) (by decide +kernel : decode k_R_fate.2.1 15 = .ok (.aload_n 0, 1)) rfl rfl) ?_
    refine ai (p_getr (pc := 16) (RR_1561_0 hL) (by decide +kernel : decode k_R_fate.2.1 16 = .ok (.getfield 58, 3)) lg_12_58 (RC_0 hL).1) ?_
    refine ai (p_aload_n (pc := 19) (k := 0) (by decide +kernel : decode k_R_fate.2.1 19 = .ok (.aload_n 0, 1)) rfl rfl) ?_
    refine ai (p_getr (pc := 20) (RR_1603_0 hL) (by decide +kernel : decode k_R_fate.2.1 20 = .ok (.getfield 152, 3)) lg_12_152 (RC_0 hL).1) ?_
    refine ai (r_iload_n (pc := 23) (k := 1) (by decide +kernel : decode k_R_fate.2.1 23 = .ok (.iload_n 1, 1)) rfl rfl) ?_
    obtain ⟨g6, h⟩ := gd_some h
    refine ai (p_iald (pc := 24) (by decide +kernel : decode k_R_fate.2.1 24 = .ok (.iaload, 1)) (RC_45 hL).1 (RC_45 hL).2 g6) ?_
    obtain ⟨g7, h⟩ := gd_some h
    refine ai (p_iald (pc := 25) (by decide +kernel : decode k_R_fate.2.1 25 = .ok (.iaload, 1)) (RC_14 hL).1 (RC_14 hL).2 g7) ?_
    refine ai (r_iconst (pc := 26) (by decide +kernel : decode k_R_fate.2.1 26 = .ok (.iconst 1, 1)) ic_1) ?_
    refine ai (r_isub (pc := 27) (by decide +kernel : decode k_R_fate.2.1 27 = .ok (.isub, 1))) ?_
    obtain ⟨r8, hr8, h⟩ := bp_some h
    refine ai (q_callS (pc := 28) (As := [.int x2, .int 0, .int ((aI m2 14 (ix (aI m2 45 (ix x1)))) - 1)]) (st := []) (st2 := [.int r8]) rfl rfl (by decide +kernel : decode k_R_fate.2.1 28 = .ok (.invokestatic 433, 3)) lc_12_433 mo_R_in ⟨Nat.le_of_ble_eq_true rfl, Nat.le_of_ble_eq_true rfl⟩ (Nat.le_of_ble_eq_true rfl) (Nat.le_of_ble_eq_true rfl) (R_in_run hr8)) ?_
    rcases ite_some h with ⟨c9, h⟩ | ⟨c9, h⟩
    · refine ai (r_if_ne_f (pc := 31) 36 (by decide +kernel : decode k_R_fate.2.1 31 = .ok (.ifCond .ne (5), 3)) (by decide) c9) ?_
      refine ai (r_iconst (pc := 34) (by decide +kernel : decode k_R_fate.2.1 34 = .ok (.iconst (-1), 1)) ic_m1) ?_
      cases h
      exact ⟨r_iret rfl (by decide +kernel : decode k_R_fate.2.1 35 = .ok (.ireturn, 1)), hL⟩
    · refine ai (r_if_ne_t (pc := 31) (tgt := 36) (by decide +kernel : decode k_R_fate.2.1 31 = .ok (.ifCond .ne (5), 3)) (by decide) c9) ?_
      refine ai (p_aload_n (pc := 36) (k := 0) (by decide +kernel : decode k_R_fate.2.1 36 = .ok (.aload_n 0, 1)) rfl rfl) ?_
      refine ai (r_iload_n (pc := 37) (k := 3) (by decide +kernel : decode k_R_fate.2.1 37 = .ok (.iload_n 3, 1)) rfl rfl) ?_
      refine ai (r_iload (pc := 38) (k := 4) (by decide +kernel : decode k_R_fate.2.1 38 = .ok (.iload 4, 2)) rfl) ?_
      refine ai (r_iload (pc := 40) (k := 5) (by decide +kernel : decode k_R_fate.2.1 40 = .ok (.iload 5, 2)) rfl) ?_
      obtain ⟨r10, m11, hr10, h⟩ := bn_some h
      have q12 := R_builds_run hL hr10
      have c13 := (RC_0 hL).1
      have hL := q12.2
      refine ai (q_callV (pc := 42) (As := [.int x3, .int x4, .int x5]) (st := []) (st2 := []) (b := 0) rfl rfl (by decide +kernel : decode k_R_fate.2.1 42 = .ok (.invokevirtual 524, 3)) lc_12_524 mo_R_builds ⟨Nat.le_of_ble_eq_true rfl, Nat.le_of_ble_eq_true rfl⟩ (Nat.le_of_ble_eq_true rfl) (Nat.le_of_ble_eq_true rfl) c13 q12.1) ?_
      refine ai (p_aload_n (pc := 45) (k := 0) (by decide +kernel : decode k_R_fate.2.1 45 = .ok (.aload_n 0, 1)) rfl rfl) ?_
      refine ai (p_getr (pc := 46) (RR_1621_0 hL) (by decide +kernel : decode k_R_fate.2.1 46 = .ok (.getfield 194, 3)) lg_12_194 (RC_0 hL).1) ?_
      refine ai (r_bipush (pc := 49) (by decide +kernel : decode k_R_fate.2.1 49 = .ok (.bipush (30), 2)) (by decide : _ = (30 : Int32))) ?_
      refine ai (p_aload_n (pc := 51) (k := 0) (by decide +kernel : decode k_R_fate.2.1 51 = .ok (.aload_n 0, 1)) rfl rfl) ?_
      refine ai (p_getr (pc := 52) (RR_1603_0 hL) (by decide +kernel : decode k_R_fate.2.1 52 = .ok (.getfield 152, 3)) lg_12_152 (RC_0 hL).1) ?_
      refine ai (r_iload_n (pc := 55) (k := 1) (by decide +kernel : decode k_R_fate.2.1 55 = .ok (.iload_n 1, 1)) rfl rfl) ?_
      obtain ⟨g14, h⟩ := gd_some h
      refine ai (p_iald (pc := 56) (by decide +kernel : decode k_R_fate.2.1 56 = .ok (.iaload, 1)) (RC_45 hL).1 (RC_45 hL).2 g14) ?_
      refine ai (r_imul (pc := 57) (by decide +kernel : decode k_R_fate.2.1 57 = .ok (.imul, 1))) ?_
      refine ai (r_iload_n (pc := 58) (k := 2) (by decide +kernel : decode k_R_fate.2.1 58 = .ok (.iload_n 2, 1)) rfl rfl) ?_
      refine ai (r_iadd (pc := 59) (by decide +kernel : decode k_R_fate.2.1 59 = .ok (.iadd, 1))) ?_
      obtain ⟨g15, h⟩ := gd_some h
      refine ai (p_iald (pc := 60) (by decide +kernel : decode k_R_fate.2.1 60 = .ok (.iaload, 1)) (RC_58 hL).1 (RC_58 hL).2 g15) ?_
      cases h
      exact ⟨r_iret rfl (by decide +kernel : decode k_R_fate.2.1 61 = .ok (.ireturn, 1)), hL⟩
set_option maxRecDepth 100000 in
set_option maxHeartbeats 4000000 in
theorem R_isWhole_33_run {x1 : Int32} {x2 : Int32} {x3 : Int32} {x4 : Int32} {m m' : Mem} {r : Int32} (hL : RL m) (h : R_isWhole_33 x1 x2 x3 x4 m = some (r, m')) : Run k_R_isWhole 33 [(0, .ref 0), (1, .int x1), (2, .int x2), (3, .int x3), (4, .int x4)] [] m (some (.int r)) m' ∧ RL m' := by
  unfold R_isWhole_33 at h
  refine ai (p_aload_n (pc := 33) (k := 0) (by decide +kernel : decode k_R_isWhole.2.1 33 = .ok (.aload_n 0, 1)) rfl rfl) ?_
  refine ai (r_iload_n (pc := 34) (k := 2) (by decide +kernel : decode k_R_isWhole.2.1 34 = .ok (.iload_n 2, 1)) rfl rfl) ?_
  refine ai (r_iload_n (pc := 35) (k := 3) (by decide +kernel : decode k_R_isWhole.2.1 35 = .ok (.iload_n 3, 1)) rfl rfl) ?_
  refine ai (r_iload (pc := 36) (k := 4) (by decide +kernel : decode k_R_isWhole.2.1 36 = .ok (.iload 4, 2)) rfl) ?_
  obtain ⟨r1, m2, hr1, h⟩ := bn_some h
  have q3 := R_builds_run hL hr1
  have c4 := (RC_0 hL).1
  have hL := q3.2
  refine ai (q_callV (pc := 38) (As := [.int x2, .int x3, .int x4]) (st := []) (st2 := []) (b := 0) rfl rfl (by decide +kernel : decode k_R_isWhole.2.1 38 = .ok (.invokevirtual 524, 3)) lc_12_524 mo_R_builds ⟨Nat.le_of_ble_eq_true rfl, Nat.le_of_ble_eq_true rfl⟩ (Nat.le_of_ble_eq_true rfl) (Nat.le_of_ble_eq_true rfl) c4 q3.1) ?_
  refine ai (p_aload_n (pc := 41) (k := 0) (by decide +kernel : decode k_R_isWhole.2.1 41 = .ok (.aload_n 0, 1)) rfl rfl) ?_
  refine ai (p_getr (pc := 42) (RR_1615_0 hL) (by decide +kernel : decode k_R_isWhole.2.1 42 = .ok (.getfield 176, 3)) lg_12_176 (RC_0 hL).1) ?_
  refine ai (p_aload_n (pc := 45) (k := 0) (by decide +kernel : decode k_R_isWhole.2.1 45 = .ok (.aload_n 0, 1)) rfl rfl) ?_
  refine ai (p_getr (pc := 46) (RR_1603_0 hL) (by decide +kernel : decode k_R_isWhole.2.1 46 = .ok (.getfield 152, 3)) lg_12_152 (RC_0 hL).1) ?_
  refine ai (r_iload_n (pc := 49) (k := 1) (by decide +kernel : decode k_R_isWhole.2.1 49 = .ok (.iload_n 1, 1)) rfl rfl) ?_
  obtain ⟨g5, h⟩ := gd_some h
  refine ai (p_iald (pc := 50) (by decide +kernel : decode k_R_isWhole.2.1 50 = .ok (.iaload, 1)) (RC_45 hL).1 (RC_45 hL).2 g5) ?_
  obtain ⟨g6, h⟩ := gd_some h
  refine ai (p_zald (pc := 51) (by decide +kernel : decode k_R_isWhole.2.1 51 = .ok (.baload, 1)) (RC_52 hL).1 (RC_52 hL).2 g6) ?_
  obtain ⟨z7, h⟩ := gz_some h
  cases h
  exact ⟨r_zret z7 rfl (by decide +kernel : decode k_R_isWhole.2.1 52 = .ok (.ireturn, 1)), hL⟩
set_option maxRecDepth 100000 in
set_option maxHeartbeats 4000000 in
theorem R_isWhole_run {x1 : Int32} {x2 : Int32} {x3 : Int32} {x4 : Int32} {m m' : Mem} {r : Int32} (hL : RL m) (h : R_isWhole x1 x2 x3 x4 m = some (r, m')) : Run k_R_isWhole 0 [(0, .ref 0), (1, .int x1), (2, .int x2), (3, .int x3), (4, .int x4)] [] m (some (.int r)) m' ∧ RL m' := by
  unfold R_isWhole at h
  refine ai (p_aload_n (pc := 0) (k := 0) (by decide +kernel : decode k_R_isWhole.2.1 0 = .ok (.aload_n 0, 1)) rfl rfl) ?_
  refine ai (r_iload_n (pc := 1) (k := 1) (by decide +kernel : decode k_R_isWhole.2.1 1 = .ok (.iload_n 1, 1)) rfl rfl) ?_
  refine ai (r_iload_n (pc := 2) (k := 2) (by decide +kernel : decode k_R_isWhole.2.1 2 = .ok (.iload_n 2, 1)) rfl rfl) ?_
  refine ai (r_iload_n (pc := 3) (k := 3) (by decide +kernel : decode k_R_isWhole.2.1 3 = .ok (.iload_n 3, 1)) rfl rfl) ?_
  refine ai (r_iload (pc := 4) (k := 4) (by decide +kernel : decode k_R_isWhole.2.1 4 = .ok (.iload 4, 2)) rfl) ?_
  obtain ⟨r1, m2, hr1, h⟩ := bn_some h
  have q3 := R_isAsked_run hL hr1
  have c4 := (RC_0 hL).1
  have hL := q3.2
  refine ai (q_callV (pc := 6) (As := [.int x1, .int x2, .int x3, .int x4]) (st := []) (st2 := [.int r1]) (b := 0) rfl rfl (by decide +kernel : decode k_R_isWhole.2.1 6 = .ok (.invokevirtual 521, 3)) lc_12_521 mo_R_isAsked ⟨Nat.le_of_ble_eq_true rfl, Nat.le_of_ble_eq_true rfl⟩ (Nat.le_of_ble_eq_true rfl) (Nat.le_of_ble_eq_true rfl) c4 q3.1) ?_
  rcases ite_some h with ⟨c5, h⟩ | ⟨c5, h⟩
  · refine ai (r_if_eq_t (pc := 9) (tgt := 31) (by decide +kernel : decode k_R_isWhole.2.1 9 = .ok (.ifCond .eq (22), 3)) (by decide) c5) ?_
    refine ai (r_iconst (pc := 31) (by decide +kernel : decode k_R_isWhole.2.1 31 = .ok (.iconst 0, 1)) ic_0) ?_
    cases h
    exact ⟨r_zret (by decide) rfl (by decide +kernel : decode k_R_isWhole.2.1 32 = .ok (.ireturn, 1)), hL⟩
  · refine ai (r_if_eq_f (pc := 9) 31 (by decide +kernel : decode k_R_isWhole.2.1 9 = .ok (.ifCond .eq (22), 3)) (by decide) c5) ?_
    refine ai (p_aload_n (pc := 12) (k := 0) (by decide +kernel : decode k_R_isWhole.2.1 12 = .ok (.aload_n 0, 1)) rfl rfl) ?_
    refine ai (p_getr (pc := 13) (RR_1602_0 hL) (by decide +kernel : decode k_R_isWhole.2.1 13 = .ok (.getfield 149, 3)) lg_12_149 (RC_0 hL).1) ?_
    refine ai (r_iload_n (pc := 16) (k := 1) (by decide +kernel : decode k_R_isWhole.2.1 16 = .ok (.iload_n 1, 1)) rfl rfl) ?_
    obtain ⟨g6, h⟩ := gd_some h
    refine ai (p_iald (pc := 17) (by decide +kernel : decode k_R_isWhole.2.1 17 = .ok (.iaload, 1)) (RC_44 hL).1 (RC_44 hL).2 g6) ?_
    rcases ite_some h with ⟨c7, h⟩ | ⟨c7, h⟩
    · refine ai (r_if_eq_t (pc := 18) (tgt := 33) (by decide +kernel : decode k_R_isWhole.2.1 18 = .ok (.ifCond .eq (15), 3)) (by decide) c7) ?_
      exact (R_isWhole_33_run hL h)
    · refine ai (r_if_eq_f (pc := 18) 33 (by decide +kernel : decode k_R_isWhole.2.1 18 = .ok (.ifCond .eq (15), 3)) (by decide) c7) ?_
      refine ai (p_aload_n (pc := 21) (k := 0) (by decide +kernel : decode k_R_isWhole.2.1 21 = .ok (.aload_n 0, 1)) rfl rfl) ?_
      refine ai (p_getr (pc := 22) (RR_1602_0 hL) (by decide +kernel : decode k_R_isWhole.2.1 22 = .ok (.getfield 149, 3)) lg_12_149 (RC_0 hL).1) ?_
      refine ai (r_iload_n (pc := 25) (k := 1) (by decide +kernel : decode k_R_isWhole.2.1 25 = .ok (.iload_n 1, 1)) rfl rfl) ?_
      obtain ⟨g8, h⟩ := gd_some h
      refine ai (p_iald (pc := 26) (by decide +kernel : decode k_R_isWhole.2.1 26 = .ok (.iaload, 1)) (RC_44 hL).1 (RC_44 hL).2 g8) ?_
      refine ai (r_iconst (pc := 27) (by decide +kernel : decode k_R_isWhole.2.1 27 = .ok (.iconst 3, 1)) ic_3) ?_
      rcases ite_some h with ⟨c9, h⟩ | ⟨c9, h⟩
      · refine ai (r_icmp_eq_t (pc := 28) (tgt := 33) (by decide +kernel : decode k_R_isWhole.2.1 28 = .ok (.if_icmp .eq (5), 3)) (by decide) c9) ?_
        exact (R_isWhole_33_run hL h)
      · refine ai (r_icmp_eq_f (pc := 28) 33 (by decide +kernel : decode k_R_isWhole.2.1 28 = .ok (.if_icmp .eq (5), 3)) (by decide) c9) ?_
        refine ai (r_iconst (pc := 31) (by decide +kernel : decode k_R_isWhole.2.1 31 = .ok (.iconst 0, 1)) ic_0) ?_
        cases h
        exact ⟨r_zret (by decide) rfl (by decide +kernel : decode k_R_isWhole.2.1 32 = .ok (.ireturn, 1)), hL⟩
set_option maxRecDepth 100000 in
set_option maxHeartbeats 4000000 in
theorem R_item_run {x1 : Int32} {x2 : Int32} {x3 : Int32} {x4 : Int32} {x5 : Int32} {x6 : Int32} {m m' : Mem} {r : Int32} (hL : RL m) (h : R_item x1 x2 x3 x4 x5 x6 m = some (r, m')) : Run k_R_item 0 [(0, .ref 0), (1, .int x1), (2, .int x2), (3, .int x3), (4, .int x4), (5, .int x5), (6, .int x6)] [] m (some (.int r)) m' ∧ RL m' := by
  unfold R_item at h
  refine ai (p_aload_n (pc := 0) (k := 0) (by decide +kernel : decode k_R_item.2.1 0 = .ok (.aload_n 0, 1)) rfl rfl) ?_
  refine ai (r_iload_n (pc := 1) (k := 1) (by decide +kernel : decode k_R_item.2.1 1 = .ok (.iload_n 1, 1)) rfl rfl) ?_
  refine ai (r_iload_n (pc := 2) (k := 2) (by decide +kernel : decode k_R_item.2.1 2 = .ok (.iload_n 2, 1)) rfl rfl) ?_
  refine ai (r_iload_n (pc := 3) (k := 3) (by decide +kernel : decode k_R_item.2.1 3 = .ok (.iload_n 3, 1)) rfl rfl) ?_
  refine ai (r_iload (pc := 4) (k := 5) (by decide +kernel : decode k_R_item.2.1 4 = .ok (.iload 5, 2)) rfl) ?_
  obtain ⟨r1, m2, hr1, h⟩ := bn_some h
  have q3 := R_isWhole_run hL hr1
  have c4 := (RC_0 hL).1
  have hL := q3.2
  refine ai (q_callV (pc := 6) (As := [.int x1, .int x2, .int x3, .int x5]) (st := []) (st2 := [.int r1]) (b := 0) rfl rfl (by decide +kernel : decode k_R_item.2.1 6 = .ok (.invokevirtual 527, 3)) lc_12_527 mo_R_isWhole ⟨Nat.le_of_ble_eq_true rfl, Nat.le_of_ble_eq_true rfl⟩ (Nat.le_of_ble_eq_true rfl) (Nat.le_of_ble_eq_true rfl) c4 q3.1) ?_
  rcases ite_some h with ⟨c5, h⟩ | ⟨c5, h⟩
  · refine ai (r_if_eq_t (pc := 9) (tgt := 34) (by decide +kernel : decode k_R_item.2.1 9 = .ok (.ifCond .eq (25), 3)) (by decide) c5) ?_
    refine ai (r_iconst (pc := 34) (by decide +kernel : decode k_R_item.2.1 34 = .ok (.iconst (-1), 1)) ic_m1) ?_
    cases h
    exact ⟨r_iret rfl (by decide +kernel : decode k_R_item.2.1 35 = .ok (.ireturn, 1)), hL⟩
  · refine ai (r_if_eq_f (pc := 9) 34 (by decide +kernel : decode k_R_item.2.1 9 = .ok (.ifCond .eq (25), 3)) (by decide) c5) ?_
    refine ai (r_iload (pc := 12) (k := 4) (by decide +kernel : decode k_R_item.2.1 12 = .ok (.iload 4, 2)) rfl) ?_
    refine ai (r_iconst (pc := 14) (by decide +kernel : decode k_R_item.2.1 14 = .ok (.iconst 0, 1)) ic_0) ?_
    refine ai (p_aload_n (pc := 15) (k := 0) (by decide +kernel : decode k_R_item.2.1 15 = .ok (.aload_n 0, 1)) rfl rfl) ?_
    refine ai (p_getr (pc := 16) (RR_1616_0 hL) (by decide +kernel : decode k_R_item.2.1 16 = .ok (.getfield 179, 3)) lg_12_179 (RC_0 hL).1) ?_
    refine ai (p_aload_n (pc := 19) (k := 0) (by decide +kernel : decode k_R_item.2.1 19 = .ok (.aload_n 0, 1)) rfl rfl) ?_
    refine ai (p_getr (pc := 20) (RR_1603_0 hL) (by decide +kernel : decode k_R_item.2.1 20 = .ok (.getfield 152, 3)) lg_12_152 (RC_0 hL).1) ?_
    refine ai (r_iload_n (pc := 23) (k := 1) (by decide +kernel : decode k_R_item.2.1 23 = .ok (.iload_n 1, 1)) rfl rfl) ?_
    obtain ⟨g6, h⟩ := gd_some h
    refine ai (p_iald (pc := 24) (by decide +kernel : decode k_R_item.2.1 24 = .ok (.iaload, 1)) (RC_45 hL).1 (RC_45 hL).2 g6) ?_
    obtain ⟨g7, h⟩ := gd_some h
    refine ai (p_iald (pc := 25) (by decide +kernel : decode k_R_item.2.1 25 = .ok (.iaload, 1)) (RC_53 hL).1 (RC_53 hL).2 g7) ?_
    refine ai (r_iconst (pc := 26) (by decide +kernel : decode k_R_item.2.1 26 = .ok (.iconst 1, 1)) ic_1) ?_
    refine ai (r_isub (pc := 27) (by decide +kernel : decode k_R_item.2.1 27 = .ok (.isub, 1))) ?_
    obtain ⟨r8, hr8, h⟩ := bp_some h
    refine ai (q_callS (pc := 28) (As := [.int x4, .int 0, .int ((aI m2 53 (ix (aI m2 45 (ix x1)))) - 1)]) (st := []) (st2 := [.int r8]) rfl rfl (by decide +kernel : decode k_R_item.2.1 28 = .ok (.invokestatic 433, 3)) lc_12_433 mo_R_in ⟨Nat.le_of_ble_eq_true rfl, Nat.le_of_ble_eq_true rfl⟩ (Nat.le_of_ble_eq_true rfl) (Nat.le_of_ble_eq_true rfl) (R_in_run hr8)) ?_
    rcases ite_some h with ⟨c9, h⟩ | ⟨c9, h⟩
    · refine ai (r_if_ne_f (pc := 31) 36 (by decide +kernel : decode k_R_item.2.1 31 = .ok (.ifCond .ne (5), 3)) (by decide) c9) ?_
      refine ai (r_iconst (pc := 34) (by decide +kernel : decode k_R_item.2.1 34 = .ok (.iconst (-1), 1)) ic_m1) ?_
      cases h
      exact ⟨r_iret rfl (by decide +kernel : decode k_R_item.2.1 35 = .ok (.ireturn, 1)), hL⟩
    · refine ai (r_if_ne_t (pc := 31) (tgt := 36) (by decide +kernel : decode k_R_item.2.1 31 = .ok (.ifCond .ne (5), 3)) (by decide) c9) ?_
      refine ai (p_aload_n (pc := 36) (k := 0) (by decide +kernel : decode k_R_item.2.1 36 = .ok (.aload_n 0, 1)) rfl rfl) ?_
      refine ai (p_getr (pc := 37) (RR_1617_0 hL) (by decide +kernel : decode k_R_item.2.1 37 = .ok (.getfield 182, 3)) lg_12_182 (RC_0 hL).1) ?_
      refine ai (r_bipush (pc := 40) (by decide +kernel : decode k_R_item.2.1 40 = .ok (.bipush (64), 2)) (by decide : _ = (64 : Int32))) ?_
      refine ai (p_aload_n (pc := 42) (k := 0) (by decide +kernel : decode k_R_item.2.1 42 = .ok (.aload_n 0, 1)) rfl rfl) ?_
      refine ai (p_getr (pc := 43) (RR_1603_0 hL) (by decide +kernel : decode k_R_item.2.1 43 = .ok (.getfield 152, 3)) lg_12_152 (RC_0 hL).1) ?_
      refine ai (r_iload_n (pc := 46) (k := 1) (by decide +kernel : decode k_R_item.2.1 46 = .ok (.iload_n 1, 1)) rfl rfl) ?_
      obtain ⟨g10, h⟩ := gd_some h
      refine ai (p_iald (pc := 47) (by decide +kernel : decode k_R_item.2.1 47 = .ok (.iaload, 1)) (RC_45 hL).1 (RC_45 hL).2 g10) ?_
      refine ai (r_imul (pc := 48) (by decide +kernel : decode k_R_item.2.1 48 = .ok (.imul, 1))) ?_
      refine ai (r_iload (pc := 49) (k := 4) (by decide +kernel : decode k_R_item.2.1 49 = .ok (.iload 4, 2)) rfl) ?_
      refine ai (r_iadd (pc := 51) (by decide +kernel : decode k_R_item.2.1 51 = .ok (.iadd, 1))) ?_
      obtain ⟨g11, h⟩ := gd_some h
      refine ai (p_iald (pc := 52) (by decide +kernel : decode k_R_item.2.1 52 = .ok (.iaload, 1)) (RC_54 hL).1 (RC_54 hL).2 g11) ?_
      obtain ⟨v12, hv12, h⟩ := vb_some h
      refine ai (e_istore (pc := 53) hv12 (by decide +kernel : decode k_R_item.2.1 53 = .ok (.istore 7, 2)) (by decide) rfl) ?_
      refine ai (r_iload (pc := 55) (k := 7) (by decide +kernel : decode k_R_item.2.1 55 = .ok (.iload 6, 2)) rfl) ?_
      rcases ite_some h with ⟨c13, h⟩ | ⟨c13, h⟩
      · refine ai (r_tableIn (pc := 57) (tgt := 84) (off := 27) (by decide +kernel : decode k_R_item.2.1 57 = .ok (.tableswitch (71) (0) (2) #[27, 52, 60], 27)) (by rw [c13]; decide) (by rw [c13]; decide) (by rw [c13]; decide +kernel) (by decide)) ?_
        refine ai (p_aload_n (pc := 84) (k := 1) (by decide +kernel : decode k_R_item.2.1 84 = .ok (.aload_n 0, 1)) rfl rfl) ?_
        refine ai (p_getr (pc := 85) (RR_1562_0 hL) (by decide +kernel : decode k_R_item.2.1 85 = .ok (.getfield 61, 3)) lg_12_61 (RC_0 hL).1) ?_
        refine ai (r_iload (pc := 88) (k := 0) (by decide +kernel : decode k_R_item.2.1 88 = .ok (.iload 7, 2)) rfl) ?_
        obtain ⟨g14, h⟩ := gd_some h
        refine ai (p_iald (pc := 90) (by decide +kernel : decode k_R_item.2.1 90 = .ok (.iaload, 1)) (RC_15 hL).1 (RC_15 hL).2 g14) ?_
        refine ai (r_iconst (pc := 91) (by decide +kernel : decode k_R_item.2.1 91 = .ok (.iconst 2, 1)) ic_2) ?_
        rcases ite_some h with ⟨c15, h⟩ | ⟨c15, h⟩
        · refine ai (r_icmp_ne_f (pc := 92) 99 (by decide +kernel : decode k_R_item.2.1 92 = .ok (.if_icmp .ne (7), 3)) (by decide) c15) ?_
          refine ai (r_iconst (pc := 95) (by decide +kernel : decode k_R_item.2.1 95 = .ok (.iconst 0, 1)) ic_0) ?_
          refine ai (r_goto (pc := 96) (tgt := 108) (by decide +kernel : decode k_R_item.2.1 96 = .ok (.goto (12), 3)) (by decide)) ?_
          cases h
          exact ⟨r_iret rfl (by decide +kernel : decode k_R_item.2.1 108 = .ok (.ireturn, 1)), hL⟩
        · refine ai (r_icmp_ne_t (pc := 92) (tgt := 99) (by decide +kernel : decode k_R_item.2.1 92 = .ok (.if_icmp .ne (7), 3)) (by decide) c15) ?_
          refine ai (p_aload_n (pc := 99) (k := 1) (by decide +kernel : decode k_R_item.2.1 99 = .ok (.aload_n 0, 1)) rfl rfl) ?_
          refine ai (p_getr (pc := 100) (RR_1562_0 hL) (by decide +kernel : decode k_R_item.2.1 100 = .ok (.getfield 61, 3)) lg_12_61 (RC_0 hL).1) ?_
          refine ai (r_iload (pc := 103) (k := 0) (by decide +kernel : decode k_R_item.2.1 103 = .ok (.iload 7, 2)) rfl) ?_
          obtain ⟨g16, h⟩ := gd_some h
          refine ai (p_iald (pc := 105) (by decide +kernel : decode k_R_item.2.1 105 = .ok (.iaload, 1)) (RC_15 hL).1 (RC_15 hL).2 g16) ?_
          refine ai (r_iconst (pc := 106) (by decide +kernel : decode k_R_item.2.1 106 = .ok (.iconst 3, 1)) ic_3) ?_
          refine ai (r_isub (pc := 107) (by decide +kernel : decode k_R_item.2.1 107 = .ok (.isub, 1))) ?_
          cases h
          exact ⟨r_iret rfl (by decide +kernel : decode k_R_item.2.1 108 = .ok (.ireturn, 1)), hL⟩
      · skip
        rcases ite_some h with ⟨c17, h⟩ | ⟨c17, h⟩
        · refine ai (r_tableIn (pc := 57) (tgt := 109) (off := 52) (by decide +kernel : decode k_R_item.2.1 57 = .ok (.tableswitch (71) (0) (2) #[27, 52, 60], 27)) (by rw [c17]; decide) (by rw [c17]; decide) (by rw [c17]; decide +kernel) (by decide)) ?_
          refine ai (p_aload_n (pc := 109) (k := 1) (by decide +kernel : decode k_R_item.2.1 109 = .ok (.aload_n 0, 1)) rfl rfl) ?_
          refine ai (p_getr (pc := 110) (RR_1563_0 hL) (by decide +kernel : decode k_R_item.2.1 110 = .ok (.getfield 64, 3)) lg_12_64 (RC_0 hL).1) ?_
          refine ai (r_iload (pc := 113) (k := 0) (by decide +kernel : decode k_R_item.2.1 113 = .ok (.iload 7, 2)) rfl) ?_
          obtain ⟨g18, h⟩ := gd_some h
          refine ai (p_iald (pc := 115) (by decide +kernel : decode k_R_item.2.1 115 = .ok (.iaload, 1)) (RC_16 hL).1 (RC_16 hL).2 g18) ?_
          cases h
          exact ⟨r_iret rfl (by decide +kernel : decode k_R_item.2.1 116 = .ok (.ireturn, 1)), hL⟩
        · skip
          rcases ite_some h with ⟨c19, h⟩ | ⟨c19, h⟩
          · refine ai (r_tableIn (pc := 57) (tgt := 117) (off := 60) (by decide +kernel : decode k_R_item.2.1 57 = .ok (.tableswitch (71) (0) (2) #[27, 52, 60], 27)) (by rw [c19]; decide) (by rw [c19]; decide) (by rw [c19]; decide +kernel) (by decide)) ?_
            refine ai (p_aload_n (pc := 117) (k := 1) (by decide +kernel : decode k_R_item.2.1 117 = .ok (.aload_n 0, 1)) rfl rfl) ?_
            refine ai (p_getr (pc := 118) (RR_1559_0 hL) (by decide +kernel : decode k_R_item.2.1 118 = .ok (.getfield 52, 3)) lg_12_52 (RC_0 hL).1) ?_
            refine ai (r_iload (pc := 121) (k := 0) (by decide +kernel : decode k_R_item.2.1 121 = .ok (.iload 7, 2)) rfl) ?_
            refine ai (r_bipush (pc := 123) (by decide +kernel : decode k_R_item.2.1 123 = .ok (.bipush (30), 2)) (by decide : _ = (30 : Int32))) ?_
            refine ai (r_idiv (pc := 125) (by decide +kernel : decode k_R_item.2.1 125 = .ok (.idiv, 1)) (by decide)) ?_
            obtain ⟨g20, h⟩ := gd_some h
            refine ai (p_iald (pc := 126) (by decide +kernel : decode k_R_item.2.1 126 = .ok (.iaload, 1)) (RC_12 hL).1 (RC_12 hL).2 g20) ?_
            cases h
            exact ⟨r_iret rfl (by decide +kernel : decode k_R_item.2.1 127 = .ok (.ireturn, 1)), hL⟩
          · skip
            have ho := tab_out (x := x6) 0 3 (by decide) (by decide) (fun k hk => by
              rcases (show k = 0 ∨ k = 1 ∨ k = 2 by omega) with rfl | rfl | rfl
              · exact fun z => c13 (z.trans (by decide))
              · exact fun z => c17 (z.trans (by decide))
              · exact fun z => c19 (z.trans (by decide)))
            refine ai (r_tableOut (pc := 57) (tgt := 128) (by decide +kernel : decode k_R_item.2.1 57 = .ok (.tableswitch (71) (0) (2) #[27, 52, 60], 27)) (by simpa using ho) (by decide)) ?_
            refine ai (r_iconst (pc := 128) (by decide +kernel : decode k_R_item.2.1 128 = .ok (.iconst (-1), 1)) ic_m1) ?_
            cases h
            exact ⟨r_iret rfl (by decide +kernel : decode k_R_item.2.1 129 = .ok (.ireturn, 1)), hL⟩
set_option maxRecDepth 100000 in
set_option maxHeartbeats 4000000 in
theorem R_isCome_2_run {n : Nat} {x1 : Int32} {x2 : Int32} {m m' : Mem} {r : Int32} (hL : RL m) (h : R_isCome_2 n x1 x2 m = some (r, m')) : Run k_R_isCome 2 [(0, .ref 0), (1, .int x1), (2, .int x2)] [] m (some (.int r)) m' ∧ RL m' := by
  induction n generalizing x1 x2 m r m' with
  | zero => exact absurd h (by simp [R_isCome_2])
  | succ n ih =>
    rw [R_isCome_2.eq_2] at h
    refine ai (r_iload_n (pc := 2) (k := 2) (by decide +kernel : decode k_R_isCome.2.1 2 = .ok (.iload_n 2, 1)) rfl rfl) ?_
    refine ai (p_aload_n (pc := 3) (k := 0) (by decide +kernel : decode k_R_isCome.2.1 3 = .ok (.aload_n 0, 1)) rfl rfl) ?_
    refine ai (r_getI (pc := 4) (by decide +kernel : decode k_R_isCome.2.1 4 = .ok (.getfield 503, 3)) lg_12_503 (by decide) (RC_0 hL).1) ?_
    rcases ite_some h with ⟨c1, h⟩ | ⟨c1, h⟩
    · refine ai (r_icmp_ge_t (pc := 7) (tgt := 28) (by decide +kernel : decode k_R_isCome.2.1 7 = .ok (.if_icmp .ge (21), 3)) (by decide) c1) ?_
      refine ai (r_iconst (pc := 28) (by decide +kernel : decode k_R_isCome.2.1 28 = .ok (.iconst 0, 1)) ic_0) ?_
      cases h
      exact ⟨r_zret (by decide) rfl (by decide +kernel : decode k_R_isCome.2.1 29 = .ok (.ireturn, 1)), hL⟩
    · refine ai (r_icmp_ge_f (pc := 7) 28 (by decide +kernel : decode k_R_isCome.2.1 7 = .ok (.if_icmp .ge (21), 3)) (by decide) c1) ?_
      refine ai (p_aload_n (pc := 10) (k := 0) (by decide +kernel : decode k_R_isCome.2.1 10 = .ok (.aload_n 0, 1)) rfl rfl) ?_
      refine ai (p_getr (pc := 11) (RR_1626_0 hL) (by decide +kernel : decode k_R_isCome.2.1 11 = .ok (.getfield 200, 3)) lg_12_200 (RC_0 hL).1) ?_
      refine ai (r_iload_n (pc := 14) (k := 2) (by decide +kernel : decode k_R_isCome.2.1 14 = .ok (.iload_n 2, 1)) rfl rfl) ?_
      obtain ⟨g2, h⟩ := gd_some h
      refine ai (p_iald (pc := 15) (by decide +kernel : decode k_R_isCome.2.1 15 = .ok (.iaload, 1)) (RC_59 hL).1 (RC_59 hL).2 g2) ?_
      refine ai (r_iload_n (pc := 16) (k := 1) (by decide +kernel : decode k_R_isCome.2.1 16 = .ok (.iload_n 1, 1)) rfl rfl) ?_
      rcases ite_some h with ⟨c3, h⟩ | ⟨c3, h⟩
      · refine ai (r_icmp_ne_f (pc := 17) 22 (by decide +kernel : decode k_R_isCome.2.1 17 = .ok (.if_icmp .ne (5), 3)) (by decide) c3) ?_
        refine ai (r_iconst (pc := 20) (by decide +kernel : decode k_R_isCome.2.1 20 = .ok (.iconst 1, 1)) ic_1) ?_
        cases h
        exact ⟨r_zret (by decide) rfl (by decide +kernel : decode k_R_isCome.2.1 21 = .ok (.ireturn, 1)), hL⟩
      · refine ai (r_icmp_ne_t (pc := 17) (tgt := 22) (by decide +kernel : decode k_R_isCome.2.1 17 = .ok (.if_icmp .ne (5), 3)) (by decide) c3) ?_
        obtain ⟨v4, hv4, h⟩ := vb_some h
        refine ai (e_iinc (pc := 22) (k := 2) hv4 ic_1 (by decide +kernel : decode k_R_isCome.2.1 22 = .ok (.iinc 2 (1), 3)) rfl (by decide) rfl) ?_
        refine ai (r_goto (pc := 25) (tgt := 2) (by decide +kernel : decode k_R_isCome.2.1 25 = .ok (.goto (-23), 3)) (by decide)) ?_
        exact (ai (r_sub [1, 2, 0] rfl) (ih hL h))
set_option maxRecDepth 100000 in
set_option maxHeartbeats 4000000 in
theorem R_isCome_run {x1 : Int32} {m m' : Mem} {r : Int32} (hL : RL m) (h : R_isCome x1 m = some (r, m')) : Run k_R_isCome 0 [(0, .ref 0), (1, .int x1)] [] m (some (.int r)) m' ∧ RL m' := by
  unfold R_isCome at h
  refine ai (r_iconst (pc := 0) (by decide +kernel : decode k_R_isCome.2.1 0 = .ok (.iconst 0, 1)) ic_0) ?_
  refine ai (e_istore_n (pc := 1) rfl (by decide +kernel : decode k_R_isCome.2.1 1 = .ok (.istore_n 2, 1)) rfl (by decide) rfl) ?_
  exact (ai (r_sub [1, 2, 0] rfl) (R_isCome_2_run hL h))
