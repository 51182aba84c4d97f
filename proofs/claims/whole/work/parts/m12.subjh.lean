/-! written by gen/emit.py -/
set_option maxRecDepth 100000 in
set_option maxHeartbeats 4000000 in
theorem P_Parting_gather_61_run {k7 : Int32 → Int32 → Mem → Option (Unit × Mem)} {x1 : Int32} {x2 : Int32} {m m' : Mem} {r : Unit} (hk7 : ∀ (x1 : Int32) (x2 : Int32) (m : Mem) (r : Unit) (m' : Mem), PL m → k7 x1 x2 m = some (r, m') → Run k_P_Parting_gather 7 [(0, .ref 41), (1, .int x1), (2, .int x2)] [] m none m' ∧ PL m') (hL : PL m) (h : P_Parting_gather_61 k7 x1 x2 m = some (r, m')) : Run k_P_Parting_gather 61 [(0, .ref 41), (1, .int x1), (2, .int x2)] [] m none m' ∧ PL m' := by
  unfold P_Parting_gather_61 at h
  obtain ⟨v1, hv1, h⟩ := vb_some h
  refine ai (e_iinc (pc := 61) (k := 2) hv1 ic_1 (by decide +kernel : decode k_P_Parting_gather.2.1 61 = .ok (.iinc 2 (1), 3)) rfl (by decide) rfl (ls2 := [(2, .int v1), (0, .ref 41), (1, .int x1)]) (i := 2)) ?_
  refine ai (r_goto (pc := 64) (tgt := 7) (by decide +kernel : decode k_P_Parting_gather.2.1 64 = .ok (.goto (-57), 3)) (by decide)) ?_
  exact (ai (r_sub [1, 2, 0] rfl) (hk7 x1 v1 m _ _ hL h))
set_option maxRecDepth 100000 in
set_option maxHeartbeats 4000000 in
theorem P_Parting_gather_7_run {n : Nat} {x1 : Int32} {x2 : Int32} {m m' : Mem} {r : Unit} (hL : PL m) (h : P_Parting_gather_7 n x1 x2 m = some (r, m')) : Run k_P_Parting_gather 7 [(0, .ref 41), (1, .int x1), (2, .int x2)] [] m none m' ∧ PL m' := by
  induction n generalizing x1 x2 m r m' with
  | zero => exact absurd h (by simp [P_Parting_gather_7])
  | succ n ih =>
    rw [P_Parting_gather_7.eq_2] at h
    refine ai (r_iload_n (pc := 7) (k := 2) (by decide +kernel : decode k_P_Parting_gather.2.1 7 = .ok (.iload_n 2, 1)) rfl rfl) ?_
    refine ai (r_bipush (pc := 8) (by decide +kernel : decode k_P_Parting_gather.2.1 8 = .ok (.bipush (16), 2)) (by decide : _ = (16 : Int32))) ?_
    rcases ite_some h with ⟨c1, h⟩ | ⟨c1, h⟩
    · refine ai (r_icmp_ge_t (pc := 10) (tgt := 67) (by decide +kernel : decode k_P_Parting_gather.2.1 10 = .ok (.if_icmp .ge (57), 3)) (by decide) c1) ?_
      cases h
      exact ⟨r_vret rfl (by decide +kernel : decode k_P_Parting_gather.2.1 67 = .ok (.return_, 1)), hL⟩
    · refine ai (r_icmp_ge_f (pc := 10) 67 (by decide +kernel : decode k_P_Parting_gather.2.1 10 = .ok (.if_icmp .ge (57), 3)) (by decide) c1) ?_
      refine ai (p_aload_n (pc := 13) (k := 0) (by decide +kernel : decode k_P_Parting_gather.2.1 13 = .ok (.aload_n 0, 1)) rfl rfl) ?_
      refine ai (r_getI (pc := 14) (by decide +kernel : decode k_P_Parting_gather.2.1 14 = .ok (.getfield 53, 3)) lg_7_53 (by decide) (PC_41 hL).1) ?_
      refine ai (r_bipush (pc := 17) (by decide +kernel : decode k_P_Parting_gather.2.1 17 = .ok (.bipush (7), 2)) (by decide : _ = (7 : Int32))) ?_
      rcases ite_some h with ⟨c2, h⟩ | ⟨c2, h⟩
      · refine ai (r_icmp_ge_t (pc := 19) (tgt := 67) (by decide +kernel : decode k_P_Parting_gather.2.1 19 = .ok (.if_icmp .ge (48), 3)) (by decide) c2) ?_
        cases h
        exact ⟨r_vret rfl (by decide +kernel : decode k_P_Parting_gather.2.1 67 = .ok (.return_, 1)), hL⟩
      · refine ai (r_icmp_ge_f (pc := 19) 67 (by decide +kernel : decode k_P_Parting_gather.2.1 19 = .ok (.if_icmp .ge (48), 3)) (by decide) c2) ?_
        refine ai (r_iload_n (pc := 22) (k := 1) (by decide +kernel : decode k_P_Parting_gather.2.1 22 = .ok (.iload_n 1, 1)) rfl rfl) ?_
        refine ai (r_iload_n (pc := 23) (k := 2) (by decide +kernel : decode k_P_Parting_gather.2.1 23 = .ok (.iload_n 2, 1)) rfl rfl) ?_
        refine ai (r_ishr (pc := 24) (by decide +kernel : decode k_P_Parting_gather.2.1 24 = .ok (.ishr, 1))) ?_
        refine ai (r_iconst (pc := 25) (by decide +kernel : decode k_P_Parting_gather.2.1 25 = .ok (.iconst 1, 1)) ic_1) ?_
        refine ai (r_iand (pc := 26) (by decide +kernel : decode k_P_Parting_gather.2.1 26 = .ok (.iand, 1))) ?_
        refine ai (r_iconst (pc := 27) (by decide +kernel : decode k_P_Parting_gather.2.1 27 = .ok (.iconst 1, 1)) ic_1) ?_
        rcases ite_some h with ⟨c3, h⟩ | ⟨c3, h⟩
        · refine ai (r_icmp_ne_f (pc := 28) 61 (by decide +kernel : decode k_P_Parting_gather.2.1 28 = .ok (.if_icmp .ne (33), 3)) (by decide) c3) ?_
          refine ai (p_aload_n (pc := 31) (k := 0) (by decide +kernel : decode k_P_Parting_gather.2.1 31 = .ok (.aload_n 0, 1)) rfl rfl) ?_
          refine ai (p_getr (pc := 32) (PR_900_41 hL) (by decide +kernel : decode k_P_Parting_gather.2.1 32 = .ok (.getfield 24, 3)) lg_7_24 (PC_41 hL).1) ?_
          refine ai (p_aload_n (pc := 35) (k := 0) (by decide +kernel : decode k_P_Parting_gather.2.1 35 = .ok (.aload_n 0, 1)) rfl rfl) ?_
          refine ai (r_getI (pc := 36) (by decide +kernel : decode k_P_Parting_gather.2.1 36 = .ok (.getfield 53, 3)) lg_7_53 (by decide) (PC_41 hL).1) ?_
          refine ai (r_iload_n (pc := 39) (k := 2) (by decide +kernel : decode k_P_Parting_gather.2.1 39 = .ok (.iload_n 2, 1)) rfl rfl) ?_
          obtain ⟨g4, h⟩ := gd_some h
          have c5 := (PC_46 hL).1
          have c6 := (PC_46 hL).2
          obtain ⟨m7, hm7, h⟩ := vb_some h
          have hL : PL m7 := by rw [hm7]; exact hL
          refine ai (p_iast (pc := 40) hm7 (by decide +kernel : decode k_P_Parting_gather.2.1 40 = .ok (.iastore, 1)) c5 c6 g4) ?_
          refine ai (p_aload_n (pc := 41) (k := 0) (by decide +kernel : decode k_P_Parting_gather.2.1 41 = .ok (.aload_n 0, 1)) rfl rfl) ?_
          refine ai (p_getr (pc := 42) (PR_902_41 hL) (by decide +kernel : decode k_P_Parting_gather.2.1 42 = .ok (.getfield 27, 3)) lg_7_27 (PC_41 hL).1) ?_
          refine ai (p_aload_n (pc := 45) (k := 0) (by decide +kernel : decode k_P_Parting_gather.2.1 45 = .ok (.aload_n 0, 1)) rfl rfl) ?_
          refine ai (r_getI (pc := 46) (by decide +kernel : decode k_P_Parting_gather.2.1 46 = .ok (.getfield 53, 3)) lg_7_53 (by decide) (PC_41 hL).1) ?_
          refine ai (r_iconst (pc := 49) (by decide +kernel : decode k_P_Parting_gather.2.1 49 = .ok (.iconst 0, 1)) ic_0) ?_
          obtain ⟨g8, h⟩ := gd_some h
          have c9 := (PC_47 hL).1
          have c10 := (PC_47 hL).2
          obtain ⟨m11, hm11, h⟩ := vb_some h
          have hL : PL m11 := by rw [hm11]; exact hL
          refine ai (p_iast (pc := 50) hm11 (by decide +kernel : decode k_P_Parting_gather.2.1 50 = .ok (.iastore, 1)) c9 c10 g8) ?_
          refine ai (p_aload_n (pc := 51) (k := 0) (by decide +kernel : decode k_P_Parting_gather.2.1 51 = .ok (.aload_n 0, 1)) rfl rfl) ?_
          refine ai (r_dup (pc := 52) (by decide +kernel : decode k_P_Parting_gather.2.1 52 = .ok (.dup, 1)) (rfl)) ?_
          refine ai (r_getI (pc := 53) (by decide +kernel : decode k_P_Parting_gather.2.1 53 = .ok (.getfield 53, 3)) lg_7_53 (by decide) (PC_41 hL).1) ?_
          refine ai (r_iconst (pc := 56) (by decide +kernel : decode k_P_Parting_gather.2.1 56 = .ok (.iconst 1, 1)) ic_1) ?_
          refine ai (r_iadd (pc := 57) (by decide +kernel : decode k_P_Parting_gather.2.1 57 = .ok (.iadd, 1))) ?_
          have c12 := (PC_41 hL).1
          obtain ⟨m13, hm13, h⟩ := vb_some h
          have hL : PL m13 := by rw [hm13]; exact hL
          refine ai (p_putI (pc := 58) hm13 (by decide +kernel : decode k_P_Parting_gather.2.1 58 = .ok (.putfield 53, 3)) lp_7_53 c12) ?_
          exact (P_Parting_gather_61_run (fun _ _ _ _ _ q1 q3 => ih q1 q3) hL h)
        · refine ai (r_icmp_ne_t (pc := 28) (tgt := 61) (by decide +kernel : decode k_P_Parting_gather.2.1 28 = .ok (.if_icmp .ne (33), 3)) (by decide) c3) ?_
          exact (P_Parting_gather_61_run (fun _ _ _ _ _ q1 q3 => ih q1 q3) hL h)
set_option maxRecDepth 100000 in
set_option maxHeartbeats 4000000 in
theorem P_Parting_gather_run {x1 : Int32} {m m' : Mem} {r : Unit} (hL : PL m) (h : P_Parting_gather x1 m = some (r, m')) : Run k_P_Parting_gather 0 [(0, .ref 41), (1, .int x1)] [] m none m' ∧ PL m' := by
  unfold P_Parting_gather at h
  refine ai (p_aload_n (pc := 0) (k := 0) (by decide +kernel : decode k_P_Parting_gather.2.1 0 = .ok (.aload_n 0, 1)) rfl rfl) ?_
  refine ai (r_iconst (pc := 1) (by decide +kernel : decode k_P_Parting_gather.2.1 1 = .ok (.iconst 0, 1)) ic_0) ?_
  have c1 := (PC_41 hL).1
  obtain ⟨m2, hm2, h⟩ := vb_some h
  have hL : PL m2 := by rw [hm2]; exact hL
  refine ai (p_putI (pc := 2) hm2 (by decide +kernel : decode k_P_Parting_gather.2.1 2 = .ok (.putfield 53, 3)) lp_7_53 c1) ?_
  refine ai (r_iconst (pc := 5) (by decide +kernel : decode k_P_Parting_gather.2.1 5 = .ok (.iconst 0, 1)) ic_0) ?_
  refine ai (e_istore_n (pc := 6) rfl (by decide +kernel : decode k_P_Parting_gather.2.1 6 = .ok (.istore_n 2, 1)) rfl (by decide) rfl (ls2 := [(2, .int 0), (0, .ref 41), (1, .int x1)]) (i := 2)) ?_
  exact (ai (r_sub [1, 2, 0] rfl) (P_Parting_gather_7_run hL h))
set_option maxRecDepth 100000 in
set_option maxHeartbeats 4000000 in
theorem P_Parting_groupsAmong_4_run {n : Nat} {x1 : Int32} {x2 : Int32} {x3 : Int32} {m m' : Mem} {r : Int32} (hL : PL m) (h : P_Parting_groupsAmong_4 n x1 x2 x3 m = some (r, m')) : Run k_P_Parting_groupsAmong 4 [(0, .ref 41), (1, .int x1), (2, .int x2), (3, .int x3)] [] m (some (.int r)) m' ∧ PL m' := by
  induction n generalizing x1 x2 x3 m r m' with
  | zero => exact absurd h (by simp [P_Parting_groupsAmong_4])
  | succ n ih =>
    rw [P_Parting_groupsAmong_4.eq_2] at h
    refine ai (r_iload_n (pc := 4) (k := 3) (by decide +kernel : decode k_P_Parting_groupsAmong.2.1 4 = .ok (.iload_n 3, 1)) rfl rfl) ?_
    refine ai (r_iload_n (pc := 5) (k := 1) (by decide +kernel : decode k_P_Parting_groupsAmong.2.1 5 = .ok (.iload_n 1, 1)) rfl rfl) ?_
    rcases ite_some h with ⟨c1, h⟩ | ⟨c1, h⟩
    · refine ai (r_icmp_ge_t (pc := 6) (tgt := 28) (by decide +kernel : decode k_P_Parting_groupsAmong.2.1 6 = .ok (.if_icmp .ge (22), 3)) (by decide) c1) ?_
      refine ai (r_iload_n (pc := 28) (k := 2) (by decide +kernel : decode k_P_Parting_groupsAmong.2.1 28 = .ok (.iload_n 2, 1)) rfl rfl) ?_
      cases h
      exact ⟨r_iret rfl (by decide +kernel : decode k_P_Parting_groupsAmong.2.1 29 = .ok (.ireturn, 1)), hL⟩
    · refine ai (r_icmp_ge_f (pc := 6) 28 (by decide +kernel : decode k_P_Parting_groupsAmong.2.1 6 = .ok (.if_icmp .ge (22), 3)) (by decide) c1) ?_
      refine ai (r_iload_n (pc := 9) (k := 2) (by decide +kernel : decode k_P_Parting_groupsAmong.2.1 9 = .ok (.iload_n 2, 1)) rfl rfl) ?_
      refine ai (p_aload_n (pc := 10) (k := 0) (by decide +kernel : decode k_P_Parting_groupsAmong.2.1 10 = .ok (.aload_n 0, 1)) rfl rfl) ?_
      refine ai (p_getr (pc := 11) (PR_902_41 hL) (by decide +kernel : decode k_P_Parting_groupsAmong.2.1 11 = .ok (.getfield 27, 3)) lg_7_27 (PC_41 hL).1) ?_
      refine ai (r_iload_n (pc := 14) (k := 3) (by decide +kernel : decode k_P_Parting_groupsAmong.2.1 14 = .ok (.iload_n 3, 1)) rfl rfl) ?_
      obtain ⟨g2, h⟩ := gd_some h
      refine ai (p_iald (pc := 15) (by decide +kernel : decode k_P_Parting_groupsAmong.2.1 15 = .ok (.iaload, 1)) (PC_47 hL).1 (PC_47 hL).2 g2) ?_
      refine ai (r_iconst (pc := 16) (by decide +kernel : decode k_P_Parting_groupsAmong.2.1 16 = .ok (.iconst 1, 1)) ic_1) ?_
      refine ai (r_iadd (pc := 17) (by decide +kernel : decode k_P_Parting_groupsAmong.2.1 17 = .ok (.iadd, 1))) ?_
      refine ai (r_mmax (pc := 18) (by decide +kernel : decode k_P_Parting_groupsAmong.2.1 18 = .ok (.invokestatic 71, 3)) lm_7_71 lm_mmax_st lm_math lm_mmax_cd ⟨by decide, by decide⟩ (Nat.le_of_ble_eq_true rfl)) ?_
      obtain ⟨v3, hv3, h⟩ := vb_some h
      refine ai (e_istore_n (pc := 21) hv3 (by decide +kernel : decode k_P_Parting_groupsAmong.2.1 21 = .ok (.istore_n 2, 1)) rfl (by decide) rfl (ls2 := [(2, .int v3), (0, .ref 41), (1, .int x1), (3, .int x3)]) (i := 2)) ?_
      obtain ⟨v4, hv4, h⟩ := vb_some h
      refine ai (e_iinc (pc := 22) (k := 3) hv4 ic_1 (by decide +kernel : decode k_P_Parting_groupsAmong.2.1 22 = .ok (.iinc 3 (1), 3)) rfl (by decide) rfl (ls2 := [(3, .int v4), (2, .int v3), (0, .ref 41), (1, .int x1)]) (i := 3)) ?_
      refine ai (r_goto (pc := 25) (tgt := 4) (by decide +kernel : decode k_P_Parting_groupsAmong.2.1 25 = .ok (.goto (-21), 3)) (by decide)) ?_
      exact (ai (r_sub [2, 3, 1, 0] rfl) (ih hL h))
set_option maxRecDepth 100000 in
set_option maxHeartbeats 4000000 in
theorem P_Parting_groupsAmong_run {x1 : Int32} {m m' : Mem} {r : Int32} (hL : PL m) (h : P_Parting_groupsAmong x1 m = some (r, m')) : Run k_P_Parting_groupsAmong 0 [(0, .ref 41), (1, .int x1)] [] m (some (.int r)) m' ∧ PL m' := by
  unfold P_Parting_groupsAmong at h
  refine ai (r_iconst (pc := 0) (by decide +kernel : decode k_P_Parting_groupsAmong.2.1 0 = .ok (.iconst 0, 1)) ic_0) ?_
  refine ai (e_istore_n (pc := 1) rfl (by decide +kernel : decode k_P_Parting_groupsAmong.2.1 1 = .ok (.istore_n 2, 1)) rfl (by decide) rfl (ls2 := [(2, .int 0), (0, .ref 41), (1, .int x1)]) (i := 2)) ?_
  refine ai (r_iconst (pc := 2) (by decide +kernel : decode k_P_Parting_groupsAmong.2.1 2 = .ok (.iconst 0, 1)) ic_0) ?_
  refine ai (e_istore_n (pc := 3) rfl (by decide +kernel : decode k_P_Parting_groupsAmong.2.1 3 = .ok (.istore_n 3, 1)) rfl (by decide) rfl (ls2 := [(3, .int 0), (2, .int 0), (0, .ref 41), (1, .int x1)]) (i := 3)) ?_
  exact (ai (r_sub [2, 3, 1, 0] rfl) (P_Parting_groupsAmong_4_run hL h))
set_option maxRecDepth 100000 in
set_option maxHeartbeats 4000000 in
theorem P_Parting_isTorn_51_run {k4 : Int32 → Int32 → Int32 → Mem → Option (Int32 × Mem)} {x1 : Int32} {x2 : Int32} {x3 : Int32} {m m' : Mem} {r : Int32} (hk4 : ∀ (x1 : Int32) (x2 : Int32) (x3 : Int32) (m : Mem) (r : Int32) (m' : Mem), PL m → k4 x1 x2 x3 m = some (r, m') → Run k_P_Parting_isTorn 4 [(0, .ref 41), (1, .int x1), (2, .int x2), (3, .int x3)] [] m (some (.int r)) m' ∧ PL m') (hL : PL m) (h : P_Parting_isTorn_51 k4 x1 x2 x3 m = some (r, m')) : Run k_P_Parting_isTorn 51 [(0, .ref 41), (1, .int x1), (2, .int x2), (3, .int x3)] [] m (some (.int r)) m' ∧ PL m' := by
  unfold P_Parting_isTorn_51 at h
  obtain ⟨v1, hv1, h⟩ := vb_some h
  refine ai (e_iinc (pc := 51) (k := 3) hv1 ic_1 (by decide +kernel : decode k_P_Parting_isTorn.2.1 51 = .ok (.iinc 3 (1), 3)) rfl (by decide) rfl (ls2 := [(3, .int v1), (0, .ref 41), (1, .int x1), (2, .int x2)]) (i := 3)) ?_
  refine ai (r_goto (pc := 54) (tgt := 4) (by decide +kernel : decode k_P_Parting_isTorn.2.1 54 = .ok (.goto (-50), 3)) (by decide)) ?_
  exact (ai (r_sub [1, 2, 3, 0] rfl) (hk4 x1 x2 v1 m _ _ hL h))
set_option maxRecDepth 100000 in
set_option maxHeartbeats 4000000 in
theorem P_Parting_isTorn_4_run {n : Nat} {x1 : Int32} {x2 : Int32} {x3 : Int32} {m m' : Mem} {r : Int32} (hL : PL m) (h : P_Parting_isTorn_4 n x1 x2 x3 m = some (r, m')) : Run k_P_Parting_isTorn 4 [(0, .ref 41), (1, .int x1), (2, .int x2), (3, .int x3)] [] m (some (.int r)) m' ∧ PL m' := by
  induction n generalizing x1 x2 x3 m r m' with
  | zero => exact absurd h (by simp [P_Parting_isTorn_4])
  | succ n ih =>
    rw [P_Parting_isTorn_4.eq_2] at h
    refine ai (r_iload_n (pc := 4) (k := 3) (by decide +kernel : decode k_P_Parting_isTorn.2.1 4 = .ok (.iload_n 3, 1)) rfl rfl) ?_
    refine ai (p_aload_n (pc := 5) (k := 0) (by decide +kernel : decode k_P_Parting_isTorn.2.1 5 = .ok (.aload_n 0, 1)) rfl rfl) ?_
    refine ai (r_getI (pc := 6) (by decide +kernel : decode k_P_Parting_isTorn.2.1 6 = .ok (.getfield 53, 3)) lg_7_53 (by decide) (PC_41 hL).1) ?_
    rcases ite_some h with ⟨c1, h⟩ | ⟨c1, h⟩
    · refine ai (r_icmp_ge_t (pc := 9) (tgt := 57) (by decide +kernel : decode k_P_Parting_isTorn.2.1 9 = .ok (.if_icmp .ge (48), 3)) (by decide) c1) ?_
      refine ai (r_iconst (pc := 57) (by decide +kernel : decode k_P_Parting_isTorn.2.1 57 = .ok (.iconst 0, 1)) ic_0) ?_
      cases h
      exact ⟨r_zret (by decide) rfl (by decide +kernel : decode k_P_Parting_isTorn.2.1 58 = .ok (.ireturn, 1)), hL⟩
    · refine ai (r_icmp_ge_f (pc := 9) 57 (by decide +kernel : decode k_P_Parting_isTorn.2.1 9 = .ok (.if_icmp .ge (48), 3)) (by decide) c1) ?_
      refine ai (p_aload_n (pc := 12) (k := 0) (by decide +kernel : decode k_P_Parting_isTorn.2.1 12 = .ok (.aload_n 0, 1)) rfl rfl) ?_
      refine ai (p_getr (pc := 13) (PR_902_41 hL) (by decide +kernel : decode k_P_Parting_isTorn.2.1 13 = .ok (.getfield 27, 3)) lg_7_27 (PC_41 hL).1) ?_
      refine ai (r_iload_n (pc := 16) (k := 3) (by decide +kernel : decode k_P_Parting_isTorn.2.1 16 = .ok (.iload_n 3, 1)) rfl rfl) ?_
      obtain ⟨g2, h⟩ := gd_some h
      refine ai (p_iald (pc := 17) (by decide +kernel : decode k_P_Parting_isTorn.2.1 17 = .ok (.iaload, 1)) (PC_47 hL).1 (PC_47 hL).2 g2) ?_
      refine ai (r_iload_n (pc := 18) (k := 1) (by decide +kernel : decode k_P_Parting_isTorn.2.1 18 = .ok (.iload_n 1, 1)) rfl rfl) ?_
      rcases ite_some h with ⟨c3, h⟩ | ⟨c3, h⟩
      · refine ai (r_icmp_ne_f (pc := 19) 51 (by decide +kernel : decode k_P_Parting_isTorn.2.1 19 = .ok (.if_icmp .ne (32), 3)) (by decide) c3) ?_
        refine ai (p_aload_n (pc := 22) (k := 0) (by decide +kernel : decode k_P_Parting_isTorn.2.1 22 = .ok (.aload_n 0, 1)) rfl rfl) ?_
        refine ai (p_getr (pc := 23) (PR_897_41 hL) (by decide +kernel : decode k_P_Parting_isTorn.2.1 23 = .ok (.getfield 15, 3)) lg_7_15 (PC_41 hL).1) ?_
        refine ai (p_aload_n (pc := 26) (k := 0) (by decide +kernel : decode k_P_Parting_isTorn.2.1 26 = .ok (.aload_n 0, 1)) rfl rfl) ?_
        refine ai (p_getr (pc := 27) (PR_900_41 hL) (by decide +kernel : decode k_P_Parting_isTorn.2.1 27 = .ok (.getfield 24, 3)) lg_7_24 (PC_41 hL).1) ?_
        refine ai (r_iload_n (pc := 30) (k := 3) (by decide +kernel : decode k_P_Parting_isTorn.2.1 30 = .ok (.iload_n 3, 1)) rfl rfl) ?_
        obtain ⟨g4, h⟩ := gd_some h
        refine ai (p_iald (pc := 31) (by decide +kernel : decode k_P_Parting_isTorn.2.1 31 = .ok (.iaload, 1)) (PC_46 hL).1 (PC_46 hL).2 g4) ?_
        obtain ⟨g5, h⟩ := gd_some h
        refine ai (p_iald (pc := 32) (by decide +kernel : decode k_P_Parting_isTorn.2.1 32 = .ok (.iaload, 1)) (PC_43 hL).1 (PC_43 hL).2 g5) ?_
        refine ai (r_iload_n (pc := 33) (k := 2) (by decide +kernel : decode k_P_Parting_isTorn.2.1 33 = .ok (.iload_n 2, 1)) rfl rfl) ?_
        refine ai (r_iand (pc := 34) (by decide +kernel : decode k_P_Parting_isTorn.2.1 34 = .ok (.iand, 1))) ?_
        rcases ite_some h with ⟨c6, h⟩ | ⟨c6, h⟩
        · refine ai (r_if_eq_t (pc := 35) (tgt := 40) (by decide +kernel : decode k_P_Parting_isTorn.2.1 35 = .ok (.ifCond .eq (5), 3)) (by decide) c6) ?_
          refine ai (r_iload_n (pc := 40) (k := 2) (by decide +kernel : decode k_P_Parting_isTorn.2.1 40 = .ok (.iload_n 2, 1)) rfl rfl) ?_
          refine ai (r_iconst (pc := 41) (by decide +kernel : decode k_P_Parting_isTorn.2.1 41 = .ok (.iconst 1, 1)) ic_1) ?_
          refine ai (p_aload_n (pc := 42) (k := 0) (by decide +kernel : decode k_P_Parting_isTorn.2.1 42 = .ok (.aload_n 0, 1)) rfl rfl) ?_
          refine ai (p_getr (pc := 43) (PR_900_41 hL) (by decide +kernel : decode k_P_Parting_isTorn.2.1 43 = .ok (.getfield 24, 3)) lg_7_24 (PC_41 hL).1) ?_
          refine ai (r_iload_n (pc := 46) (k := 3) (by decide +kernel : decode k_P_Parting_isTorn.2.1 46 = .ok (.iload_n 3, 1)) rfl rfl) ?_
          obtain ⟨g7, h⟩ := gd_some h
          refine ai (p_iald (pc := 47) (by decide +kernel : decode k_P_Parting_isTorn.2.1 47 = .ok (.iaload, 1)) (PC_46 hL).1 (PC_46 hL).2 g7) ?_
          refine ai (r_ishl (pc := 48) (by decide +kernel : decode k_P_Parting_isTorn.2.1 48 = .ok (.ishl, 1))) ?_
          refine ai (r_ior (pc := 49) (by decide +kernel : decode k_P_Parting_isTorn.2.1 49 = .ok (.ior, 1))) ?_
          obtain ⟨v8, hv8, h⟩ := vb_some h
          refine ai (e_istore_n (pc := 50) hv8 (by decide +kernel : decode k_P_Parting_isTorn.2.1 50 = .ok (.istore_n 2, 1)) rfl (by decide) rfl (ls2 := [(2, .int v8), (0, .ref 41), (1, .int x1), (3, .int x3)]) (i := 2)) ?_
          exact (ai (r_sub [1, 2, 0, 3] rfl) (P_Parting_isTorn_51_run (fun _ _ _ _ _ _ q1 q3 => ih q1 q3) hL h))
        · refine ai (r_if_eq_f (pc := 35) 40 (by decide +kernel : decode k_P_Parting_isTorn.2.1 35 = .ok (.ifCond .eq (5), 3)) (by decide) c6) ?_
          refine ai (r_iconst (pc := 38) (by decide +kernel : decode k_P_Parting_isTorn.2.1 38 = .ok (.iconst 1, 1)) ic_1) ?_
          cases h
          exact ⟨r_zret (by decide) rfl (by decide +kernel : decode k_P_Parting_isTorn.2.1 39 = .ok (.ireturn, 1)), hL⟩
      · refine ai (r_icmp_ne_t (pc := 19) (tgt := 51) (by decide +kernel : decode k_P_Parting_isTorn.2.1 19 = .ok (.if_icmp .ne (32), 3)) (by decide) c3) ?_
        exact (P_Parting_isTorn_51_run (fun _ _ _ _ _ _ q1 q3 => ih q1 q3) hL h)
set_option maxRecDepth 100000 in
set_option maxHeartbeats 4000000 in
theorem P_Parting_isTorn_run {x1 : Int32} {m m' : Mem} {r : Int32} (hL : PL m) (h : P_Parting_isTorn x1 m = some (r, m')) : Run k_P_Parting_isTorn 0 [(0, .ref 41), (1, .int x1)] [] m (some (.int r)) m' ∧ PL m' := by
  unfold P_Parting_isTorn at h
  refine ai (r_iconst (pc := 0) (by decide +kernel : decode k_P_Parting_isTorn.2.1 0 = .ok (.iconst 0, 1)) ic_0) ?_
  refine ai (e_istore_n (pc := 1) rfl (by decide +kernel : decode k_P_Parting_isTorn.2.1 1 = .ok (.istore_n 2, 1)) rfl (by decide) rfl (ls2 := [(2, .int 0), (0, .ref 41), (1, .int x1)]) (i := 2)) ?_
  refine ai (r_iconst (pc := 2) (by decide +kernel : decode k_P_Parting_isTorn.2.1 2 = .ok (.iconst 0, 1)) ic_0) ?_
  refine ai (e_istore_n (pc := 3) rfl (by decide +kernel : decode k_P_Parting_isTorn.2.1 3 = .ok (.istore_n 3, 1)) rfl (by decide) rfl (ls2 := [(3, .int 0), (2, .int 0), (0, .ref 41), (1, .int x1)]) (i := 3)) ?_
  exact (ai (r_sub [2, 3, 1, 0] rfl) (P_Parting_isTorn_4_run hL h))
set_option maxRecDepth 100000 in
set_option maxHeartbeats 4000000 in
theorem P_Parting_withValue_44_run {k5 : Int32 → Int32 → Int32 → Int32 → Mem → Option (Int32 × Mem)} {x1 : Int32} {x2 : Int32} {x3 : Int32} {x4 : Int32} {m m' : Mem} {r : Int32} (hk5 : ∀ (x1 : Int32) (x2 : Int32) (x3 : Int32) (x4 : Int32) (m : Mem) (r : Int32) (m' : Mem), PL m → k5 x1 x2 x3 x4 m = some (r, m') → Run k_P_Parting_withValue 5 [(0, .ref 41), (1, .int x1), (2, .int x2), (3, .int x3), (4, .int x4)] [] m (some (.int r)) m' ∧ PL m') (hL : PL m) (h : P_Parting_withValue_44 k5 x1 x2 x3 x4 m = some (r, m')) : Run k_P_Parting_withValue 44 [(0, .ref 41), (1, .int x1), (2, .int x2), (3, .int x3), (4, .int x4)] [] m (some (.int r)) m' ∧ PL m' := by
  unfold P_Parting_withValue_44 at h
  obtain ⟨v1, hv1, h⟩ := vb_some h
  refine ai (e_iinc (pc := 44) (k := 4) hv1 ic_1 (by decide +kernel : decode k_P_Parting_withValue.2.1 44 = .ok (.iinc 4 (1), 3)) rfl (by decide) rfl (ls2 := [(4, .int v1), (0, .ref 41), (1, .int x1), (2, .int x2), (3, .int x3)]) (i := 4)) ?_
  refine ai (r_goto (pc := 47) (tgt := 5) (by decide +kernel : decode k_P_Parting_withValue.2.1 47 = .ok (.goto (-42), 3)) (by decide)) ?_
  exact (ai (r_sub [1, 2, 3, 4, 0] rfl) (hk5 x1 x2 x3 v1 m _ _ hL h))
set_option maxRecDepth 100000 in
set_option maxHeartbeats 4000000 in
theorem P_Parting_withValue_5_run {n : Nat} {x1 : Int32} {x2 : Int32} {x3 : Int32} {x4 : Int32} {m m' : Mem} {r : Int32} (hL : PL m) (h : P_Parting_withValue_5 n x1 x2 x3 x4 m = some (r, m')) : Run k_P_Parting_withValue 5 [(0, .ref 41), (1, .int x1), (2, .int x2), (3, .int x3), (4, .int x4)] [] m (some (.int r)) m' ∧ PL m' := by
  induction n generalizing x1 x2 x3 x4 m r m' with
  | zero => exact absurd h (by simp [P_Parting_withValue_5])
  | succ n ih =>
    rw [P_Parting_withValue_5.eq_2] at h
    refine ai (r_iload (pc := 5) (k := 4) (by decide +kernel : decode k_P_Parting_withValue.2.1 5 = .ok (.iload 4, 2)) rfl) ?_
    refine ai (p_aload_n (pc := 7) (k := 0) (by decide +kernel : decode k_P_Parting_withValue.2.1 7 = .ok (.aload_n 0, 1)) rfl rfl) ?_
    refine ai (r_getI (pc := 8) (by decide +kernel : decode k_P_Parting_withValue.2.1 8 = .ok (.getfield 53, 3)) lg_7_53 (by decide) (PC_41 hL).1) ?_
    rcases ite_some h with ⟨c1, h⟩ | ⟨c1, h⟩
    · refine ai (r_icmp_ge_t (pc := 11) (tgt := 50) (by decide +kernel : decode k_P_Parting_withValue.2.1 11 = .ok (.if_icmp .ge (39), 3)) (by decide) c1) ?_
      refine ai (r_iload_n (pc := 50) (k := 3) (by decide +kernel : decode k_P_Parting_withValue.2.1 50 = .ok (.iload_n 3, 1)) rfl rfl) ?_
      cases h
      exact ⟨r_iret rfl (by decide +kernel : decode k_P_Parting_withValue.2.1 51 = .ok (.ireturn, 1)), hL⟩
    · refine ai (r_icmp_ge_f (pc := 11) 50 (by decide +kernel : decode k_P_Parting_withValue.2.1 11 = .ok (.if_icmp .ge (39), 3)) (by decide) c1) ?_
      refine ai (p_aload_n (pc := 14) (k := 0) (by decide +kernel : decode k_P_Parting_withValue.2.1 14 = .ok (.aload_n 0, 1)) rfl rfl) ?_
      refine ai (p_getr (pc := 15) (PR_902_41 hL) (by decide +kernel : decode k_P_Parting_withValue.2.1 15 = .ok (.getfield 27, 3)) lg_7_27 (PC_41 hL).1) ?_
      refine ai (r_iload (pc := 18) (k := 4) (by decide +kernel : decode k_P_Parting_withValue.2.1 18 = .ok (.iload 4, 2)) rfl) ?_
      obtain ⟨g2, h⟩ := gd_some h
      refine ai (p_iald (pc := 20) (by decide +kernel : decode k_P_Parting_withValue.2.1 20 = .ok (.iaload, 1)) (PC_47 hL).1 (PC_47 hL).2 g2) ?_
      refine ai (r_iload_n (pc := 21) (k := 1) (by decide +kernel : decode k_P_Parting_withValue.2.1 21 = .ok (.iload_n 1, 1)) rfl rfl) ?_
      rcases ite_some h with ⟨c3, h⟩ | ⟨c3, h⟩
      · refine ai (r_icmp_ne_f (pc := 22) 44 (by decide +kernel : decode k_P_Parting_withValue.2.1 22 = .ok (.if_icmp .ne (22), 3)) (by decide) c3) ?_
        refine ai (p_aload_n (pc := 25) (k := 0) (by decide +kernel : decode k_P_Parting_withValue.2.1 25 = .ok (.aload_n 0, 1)) rfl rfl) ?_
        refine ai (p_getr (pc := 26) (PR_896_41 hL) (by decide +kernel : decode k_P_Parting_withValue.2.1 26 = .ok (.getfield 9, 3)) lg_7_9 (PC_41 hL).1) ?_
        refine ai (p_aload_n (pc := 29) (k := 0) (by decide +kernel : decode k_P_Parting_withValue.2.1 29 = .ok (.aload_n 0, 1)) rfl rfl) ?_
        refine ai (p_getr (pc := 30) (PR_900_41 hL) (by decide +kernel : decode k_P_Parting_withValue.2.1 30 = .ok (.getfield 24, 3)) lg_7_24 (PC_41 hL).1) ?_
        refine ai (r_iload (pc := 33) (k := 4) (by decide +kernel : decode k_P_Parting_withValue.2.1 33 = .ok (.iload 4, 2)) rfl) ?_
        obtain ⟨g4, h⟩ := gd_some h
        refine ai (p_iald (pc := 35) (by decide +kernel : decode k_P_Parting_withValue.2.1 35 = .ok (.iaload, 1)) (PC_46 hL).1 (PC_46 hL).2 g4) ?_
        obtain ⟨g5, h⟩ := gd_some h
        refine ai (p_iald (pc := 36) (by decide +kernel : decode k_P_Parting_withValue.2.1 36 = .ok (.iaload, 1)) (PC_42 hL).1 (PC_42 hL).2 g5) ?_
        refine ai (r_iload_n (pc := 37) (k := 2) (by decide +kernel : decode k_P_Parting_withValue.2.1 37 = .ok (.iload_n 2, 1)) rfl rfl) ?_
        rcases ite_some h with ⟨c6, h⟩ | ⟨c6, h⟩
        · refine ai (r_icmp_ne_f (pc := 38) 44 (by decide +kernel : decode k_P_Parting_withValue.2.1 38 = .ok (.if_icmp .ne (6), 3)) (by decide) c6) ?_
          obtain ⟨v7, hv7, h⟩ := vb_some h
          refine ai (e_iinc (pc := 41) (k := 3) hv7 ic_1 (by decide +kernel : decode k_P_Parting_withValue.2.1 41 = .ok (.iinc 3 (1), 3)) rfl (by decide) rfl (ls2 := [(3, .int v7), (0, .ref 41), (1, .int x1), (2, .int x2), (4, .int x4)]) (i := 3)) ?_
          exact (ai (r_sub [1, 2, 3, 0, 4] rfl) (P_Parting_withValue_44_run (fun _ _ _ _ _ _ _ q1 q3 => ih q1 q3) hL h))
        · refine ai (r_icmp_ne_t (pc := 38) (tgt := 44) (by decide +kernel : decode k_P_Parting_withValue.2.1 38 = .ok (.if_icmp .ne (6), 3)) (by decide) c6) ?_
          exact (P_Parting_withValue_44_run (fun _ _ _ _ _ _ _ q1 q3 => ih q1 q3) hL h)
      · refine ai (r_icmp_ne_t (pc := 22) (tgt := 44) (by decide +kernel : decode k_P_Parting_withValue.2.1 22 = .ok (.if_icmp .ne (22), 3)) (by decide) c3) ?_
        exact (P_Parting_withValue_44_run (fun _ _ _ _ _ _ _ q1 q3 => ih q1 q3) hL h)
set_option maxRecDepth 100000 in
set_option maxHeartbeats 4000000 in
theorem P_Parting_withValue_run {x1 : Int32} {x2 : Int32} {m m' : Mem} {r : Int32} (hL : PL m) (h : P_Parting_withValue x1 x2 m = some (r, m')) : Run k_P_Parting_withValue 0 [(0, .ref 41), (1, .int x1), (2, .int x2)] [] m (some (.int r)) m' ∧ PL m' := by
  unfold P_Parting_withValue at h
  refine ai (r_iconst (pc := 0) (by decide +kernel : decode k_P_Parting_withValue.2.1 0 = .ok (.iconst 0, 1)) ic_0) ?_
  refine ai (e_istore_n (pc := 1) rfl (by decide +kernel : decode k_P_Parting_withValue.2.1 1 = .ok (.istore_n 3, 1)) rfl (by decide) rfl (ls2 := [(3, .int 0), (0, .ref 41), (1, .int x1), (2, .int x2)]) (i := 3)) ?_
  refine ai (r_iconst (pc := 2) (by decide +kernel : decode k_P_Parting_withValue.2.1 2 = .ok (.iconst 0, 1)) ic_0) ?_
  refine ai (e_istore (pc := 3) rfl (by decide +kernel : decode k_P_Parting_withValue.2.1 3 = .ok (.istore 4, 2)) (by decide) rfl (ls2 := [(4, .int 0), (3, .int 0), (0, .ref 41), (1, .int x1), (2, .int x2)]) (i := 4)) ?_
  exact (ai (r_sub [2, 3, 4, 1, 0] rfl) (P_Parting_withValue_5_run hL h))
set_option maxRecDepth 100000 in
set_option maxHeartbeats 4000000 in
theorem P_Parting_settle_76_run {k13 : Int32 → Int32 → Int32 → Int32 → Int32 → Int32 → Mem → Option (Int32 × Mem)} {x1 : Int32} {x2 : Int32} {x3 : Int32} {x4 : Int32} {x5 : Int32} {x6 : Int32} {m m' : Mem} {r : Int32} (hk13 : ∀ (x1 : Int32) (x2 : Int32) (x3 : Int32) (x4 : Int32) (x5 : Int32) (x6 : Int32) (m : Mem) (r : Int32) (m' : Mem), PL m → k13 x1 x2 x3 x4 x5 x6 m = some (r, m') → Run k_P_Parting_settle 13 [(0, .ref 41), (1, .int x1), (2, .int x2), (3, .int x3), (4, .int x4), (5, .int x5), (6, .int x6)] [] m (some (.int r)) m' ∧ PL m') (hL : PL m) (h : P_Parting_settle_76 k13 x1 x2 x3 x4 x5 x6 m = some (r, m')) : Run k_P_Parting_settle 76 [(0, .ref 41), (1, .int x1), (2, .int x2), (3, .int x3), (4, .int x4), (5, .int x5), (6, .int x6)] [] m (some (.int r)) m' ∧ PL m' := by
  unfold P_Parting_settle_76 at h
  obtain ⟨v1, hv1, h⟩ := vb_some h
  refine ai (e_iinc (pc := 76) (k := 6) hv1 ic_1 (by decide +kernel : decode k_P_Parting_settle.2.1 76 = .ok (.iinc 6 (1), 3)) rfl (by decide) rfl (ls2 := [(6, .int v1), (0, .ref 41), (1, .int x1), (2, .int x2), (3, .int x3), (4, .int x4), (5, .int x5)]) (i := 6)) ?_
  refine ai (r_goto (pc := 79) (tgt := 13) (by decide +kernel : decode k_P_Parting_settle.2.1 79 = .ok (.goto (-66), 3)) (by decide)) ?_
  exact (ai (r_sub [1, 2, 3, 4, 5, 6, 0] rfl) (hk13 x1 x2 x3 x4 x5 v1 m _ _ hL h))
set_option maxRecDepth 100000 in
set_option maxHeartbeats 4000000 in
theorem P_Parting_settle_199_run {k108 : Int32 → Int32 → Int32 → Int32 → Int32 → Int32 → Mem → Option (Int32 × Mem)} {x1 : Int32} {x3 : Int32} {x4 : Int32} {x5 : Int32} {x6 : Int32} {x7 : Int32} {m m' : Mem} {r : Int32} (hk108 : ∀ (x1 : Int32) (x3 : Int32) (x4 : Int32) (x5 : Int32) (x6 : Int32) (x7 : Int32) (m : Mem) (r : Int32) (m' : Mem), PL m → k108 x1 x3 x4 x5 x6 x7 m = some (r, m') → Run k_P_Parting_settle 108 [(0, .ref 41), (1, .int x1), (3, .int x3), (4, .int x4), (5, .int x5), (6, .int x6), (7, .int x7)] [] m (some (.int r)) m' ∧ PL m') (hL : PL m) (h : P_Parting_settle_199 k108 x1 x3 x4 x5 x6 x7 m = some (r, m')) : Run k_P_Parting_settle 199 [(0, .ref 41), (1, .int x1), (3, .int x3), (4, .int x4), (5, .int x5), (6, .int x6), (7, .int x7)] [] m (some (.int r)) m' ∧ PL m' := by
  unfold P_Parting_settle_199 at h
  obtain ⟨v1, hv1, h⟩ := vb_some h
  refine ai (e_iinc (pc := 199) (k := 6) hv1 ic_1 (by decide +kernel : decode k_P_Parting_settle.2.1 199 = .ok (.iinc 7 (1), 3)) rfl (by decide) rfl (ls2 := [(7, .int v1), (0, .ref 41), (1, .int x1), (3, .int x3), (4, .int x4), (5, .int x5), (6, .int x6)]) (i := 7)) ?_
  refine ai (r_goto (pc := 202) (tgt := 108) (by decide +kernel : decode k_P_Parting_settle.2.1 202 = .ok (.goto (-94), 3)) (by decide)) ?_
  exact (ai (r_sub [1, 2, 3, 4, 5, 6, 0] rfl) (hk108 x1 x3 x4 x5 x6 v1 m _ _ hL h))
set_option maxRecDepth 100000 in
set_option maxHeartbeats 4000000 in
theorem P_Parting_settle_187_run {k108 : Int32 → Int32 → Int32 → Int32 → Int32 → Int32 → Mem → Option (Int32 × Mem)} {x1 : Int32} {x3 : Int32} {x4 : Int32} {x5 : Int32} {x7 : Int32} {x8 : Int32} {x9 : Int32} {m m' : Mem} {r : Int32} (hk108 : ∀ (x1 : Int32) (x3 : Int32) (x4 : Int32) (x5 : Int32) (x6 : Int32) (x7 : Int32) (m : Mem) (r : Int32) (m' : Mem), PL m → k108 x1 x3 x4 x5 x6 x7 m = some (r, m') → Run k_P_Parting_settle 108 [(0, .ref 41), (1, .int x1), (3, .int x3), (4, .int x4), (5, .int x5), (6, .int x6), (7, .int x7)] [] m (some (.int r)) m' ∧ PL m') (hL : PL m) (h : P_Parting_settle_187 k108 x1 x3 x4 x5 x7 x8 x9 m = some (r, m')) : Run k_P_Parting_settle 187 [(0, .ref 41), (1, .int x1), (3, .int x3), (4, .int x4), (5, .int x5), (7, .int x7), (8, .int x8), (9, .int x9)] [] m (some (.int r)) m' ∧ PL m' := by
  unfold P_Parting_settle_187 at h
  refine ai (p_aload_n (pc := 187) (k := 0) (by decide +kernel : decode k_P_Parting_settle.2.1 187 = .ok (.aload_n 0, 1)) rfl rfl) ?_
  refine ai (p_getr (pc := 188) (PR_903_41 hL) (by decide +kernel : decode k_P_Parting_settle.2.1 188 = .ok (.getfield 30, 3)) lg_7_30 (PC_41 hL).1) ?_
  refine ai (r_iload_n (pc := 191) (k := 1) (by decide +kernel : decode k_P_Parting_settle.2.1 191 = .ok (.iload_n 1, 1)) rfl rfl) ?_
  refine ai (r_iload (pc := 192) (k := 6) (by decide +kernel : decode k_P_Parting_settle.2.1 192 = .ok (.iload 8, 2)) rfl) ?_
  obtain ⟨g1, h⟩ := gd_some h
  have c2 := (PC_48 hL).1
  have c3 := (PC_48 hL).2
  obtain ⟨m4, hm4, h⟩ := vb_some h
  have hL : PL m4 := by rw [hm4]; exact hL
  refine ai (p_iast (pc := 194) hm4 (by decide +kernel : decode k_P_Parting_settle.2.1 194 = .ok (.iastore, 1)) c2 c3 g1) ?_
  refine ai (r_iload (pc := 195) (k := 7) (by decide +kernel : decode k_P_Parting_settle.2.1 195 = .ok (.iload 9, 2)) rfl) ?_
  refine ai (e_istore (pc := 197) rfl (by decide +kernel : decode k_P_Parting_settle.2.1 197 = .ok (.istore 6, 2)) (by decide) rfl (ls2 := [(6, .int x9), (0, .ref 41), (1, .int x1), (3, .int x3), (4, .int x4), (5, .int x5), (7, .int x7), (8, .int x8), (9, .int x9)]) (i := 6)) ?_
  exact (ai (r_sub [1, 2, 3, 4, 5, 0, 6] rfl) (P_Parting_settle_199_run hk108 hL h))
set_option maxRecDepth 100000 in
set_option maxHeartbeats 4000000 in
theorem P_Parting_settle_205_run {x5 : Int32} {x6 : Int32} {m m' : Mem} {r : Int32} (hL : PL m) (h : P_Parting_settle_205 x5 x6 m = some (r, m')) : Run k_P_Parting_settle 205 [(5, .int x5), (6, .int x6)] [] m (some (.int r)) m' ∧ PL m' := by
  unfold P_Parting_settle_205 at h
  refine ai (r_iload (pc := 205) (k := 0) (by decide +kernel : decode k_P_Parting_settle.2.1 205 = .ok (.iload 5, 2)) rfl) ?_
  refine ai (r_iload (pc := 207) (k := 1) (by decide +kernel : decode k_P_Parting_settle.2.1 207 = .ok (.iload 6, 2)) rfl) ?_
  refine ai (r_isub (pc := 209) (by decide +kernel : decode k_P_Parting_settle.2.1 209 = .ok (.isub, 1))) ?_
  cases h
  exact ⟨r_iret rfl (by decide +kernel : decode k_P_Parting_settle.2.1 210 = .ok (.ireturn, 1)), hL⟩
set_option maxRecDepth 100000 in
set_option maxHeartbeats 4000000 in
theorem P_Parting_settle_108_run {n : Nat} {x1 : Int32} {x3 : Int32} {x4 : Int32} {x5 : Int32} {x6 : Int32} {x7 : Int32} {m m' : Mem} {r : Int32} (hL : PL m) (h : P_Parting_settle_108 n x1 x3 x4 x5 x6 x7 m = some (r, m')) : Run k_P_Parting_settle 108 [(0, .ref 41), (1, .int x1), (3, .int x3), (4, .int x4), (5, .int x5), (6, .int x6), (7, .int x7)] [] m (some (.int r)) m' ∧ PL m' := by
  induction n generalizing x1 x3 x4 x5 x6 x7 m r m' with
  | zero => exact absurd h (by simp [P_Parting_settle_108])
  | succ n ih =>
    rw [P_Parting_settle_108.eq_2] at h
    refine ai (r_iload (pc := 108) (k := 6) (by decide +kernel : decode k_P_Parting_settle.2.1 108 = .ok (.iload 7, 2)) rfl) ?_
    refine ai (p_aload_n (pc := 110) (k := 0) (by decide +kernel : decode k_P_Parting_settle.2.1 110 = .ok (.aload_n 0, 1)) rfl rfl) ?_
    refine ai (r_getI (pc := 111) (by decide +kernel : decode k_P_Parting_settle.2.1 111 = .ok (.getfield 53, 3)) lg_7_53 (by decide) (PC_41 hL).1) ?_
    rcases ite_some h with ⟨c1, h⟩ | ⟨c1, h⟩
    · refine ai (r_icmp_ge_t (pc := 114) (tgt := 205) (by decide +kernel : decode k_P_Parting_settle.2.1 114 = .ok (.if_icmp .ge (91), 3)) (by decide) c1) ?_
      exact (ai (r_sub [4, 5] rfl) (P_Parting_settle_205_run hL h))
    · refine ai (r_icmp_ge_f (pc := 114) 205 (by decide +kernel : decode k_P_Parting_settle.2.1 114 = .ok (.if_icmp .ge (91), 3)) (by decide) c1) ?_
      refine ai (p_aload_n (pc := 117) (k := 0) (by decide +kernel : decode k_P_Parting_settle.2.1 117 = .ok (.aload_n 0, 1)) rfl rfl) ?_
      refine ai (p_getr (pc := 118) (PR_896_41 hL) (by decide +kernel : decode k_P_Parting_settle.2.1 118 = .ok (.getfield 9, 3)) lg_7_9 (PC_41 hL).1) ?_
      refine ai (p_aload_n (pc := 121) (k := 0) (by decide +kernel : decode k_P_Parting_settle.2.1 121 = .ok (.aload_n 0, 1)) rfl rfl) ?_
      refine ai (p_getr (pc := 122) (PR_900_41 hL) (by decide +kernel : decode k_P_Parting_settle.2.1 122 = .ok (.getfield 24, 3)) lg_7_24 (PC_41 hL).1) ?_
      refine ai (r_iload (pc := 125) (k := 6) (by decide +kernel : decode k_P_Parting_settle.2.1 125 = .ok (.iload 7, 2)) rfl) ?_
      obtain ⟨g2, h⟩ := gd_some h
      refine ai (p_iald (pc := 127) (by decide +kernel : decode k_P_Parting_settle.2.1 127 = .ok (.iaload, 1)) (PC_46 hL).1 (PC_46 hL).2 g2) ?_
      obtain ⟨g3, h⟩ := gd_some h
      refine ai (p_iald (pc := 128) (by decide +kernel : decode k_P_Parting_settle.2.1 128 = .ok (.iaload, 1)) (PC_42 hL).1 (PC_42 hL).2 g3) ?_
      obtain ⟨v4, hv4, h⟩ := vb_some h
      refine ai (e_istore (pc := 129) hv4 (by decide +kernel : decode k_P_Parting_settle.2.1 129 = .ok (.istore 8, 2)) (by decide) rfl (ls2 := [(8, .int v4), (0, .ref 41), (1, .int x1), (3, .int x3), (4, .int x4), (5, .int x5), (6, .int x6), (7, .int x7)]) (i := 8)) ?_
      refine ai (p_aload_n (pc := 131) (k := 1) (by decide +kernel : decode k_P_Parting_settle.2.1 131 = .ok (.aload_n 0, 1)) rfl rfl) ?_
      refine ai (p_getr (pc := 132) (PR_902_41 hL) (by decide +kernel : decode k_P_Parting_settle.2.1 132 = .ok (.getfield 27, 3)) lg_7_27 (PC_41 hL).1) ?_
      refine ai (r_iload (pc := 135) (k := 7) (by decide +kernel : decode k_P_Parting_settle.2.1 135 = .ok (.iload 7, 2)) rfl) ?_
      obtain ⟨g5, h⟩ := gd_some h
      refine ai (p_iald (pc := 137) (by decide +kernel : decode k_P_Parting_settle.2.1 137 = .ok (.iaload, 1)) (PC_47 hL).1 (PC_47 hL).2 g5) ?_
      refine ai (r_iload_n (pc := 138) (k := 2) (by decide +kernel : decode k_P_Parting_settle.2.1 138 = .ok (.iload_n 1, 1)) rfl rfl) ?_
      rcases ite_some h with ⟨c6, h⟩ | ⟨c6, h⟩
      · refine ai (r_icmp_ne_f (pc := 139) 199 (by decide +kernel : decode k_P_Parting_settle.2.1 139 = .ok (.if_icmp .ne (60), 3)) (by decide) c6) ?_
        refine ai (r_iload (pc := 142) (k := 0) (by decide +kernel : decode k_P_Parting_settle.2.1 142 = .ok (.iload 8, 2)) rfl) ?_
        refine ai (r_iload_n (pc := 144) (k := 3) (by decide +kernel : decode k_P_Parting_settle.2.1 144 = .ok (.iload_n 3, 1)) rfl rfl) ?_
        refine ai (r_iload (pc := 145) (k := 4) (by decide +kernel : decode k_P_Parting_settle.2.1 145 = .ok (.iload 4, 2)) rfl) ?_
        obtain ⟨r7, hr7, h⟩ := bp_some h
        refine ai (q_callSN (pc := 147) (As := [.int v4, .int x3, .int x4]) (st := []) (st2 := [.int r7]) rfl rfl (by decide +kernel : decode k_P_Parting_settle.2.1 147 = .ok (.invokestatic 99, 3)) lc_7_99 mo_P_within ⟨Nat.le_of_ble_eq_true rfl, Nat.le_of_ble_eq_true rfl⟩ (Nat.le_of_ble_eq_true rfl) (Nat.le_of_ble_eq_true rfl) (P_within_run hr7)) ?_
        rcases ite_some h with ⟨c8, h⟩ | ⟨c8, h⟩
        · refine ai (r_if_eq_t (pc := 150) (tgt := 199) (by decide +kernel : decode k_P_Parting_settle.2.1 150 = .ok (.ifCond .eq (49), 3)) (by decide) c8) ?_
          exact (ai (r_sub [1, 2, 3, 4, 5, 6, 7] rfl) (P_Parting_settle_199_run (fun _ _ _ _ _ _ _ _ _ q1 q3 => ih q1 q3) hL h))
        · refine ai (r_if_eq_f (pc := 150) 199 (by decide +kernel : decode k_P_Parting_settle.2.1 150 = .ok (.ifCond .eq (49), 3)) (by decide) c8) ?_
          refine ai (p_aload_n (pc := 153) (k := 1) (by decide +kernel : decode k_P_Parting_settle.2.1 153 = .ok (.aload_n 0, 1)) rfl rfl) ?_
          refine ai (r_iload_n (pc := 154) (k := 2) (by decide +kernel : decode k_P_Parting_settle.2.1 154 = .ok (.iload_n 1, 1)) rfl rfl) ?_
          refine ai (r_iload (pc := 155) (k := 0) (by decide +kernel : decode k_P_Parting_settle.2.1 155 = .ok (.iload 8, 2)) rfl) ?_
          obtain ⟨r9, m10, hr9, h⟩ := bn_some h
          have q11 := P_Parting_withValue_run hL hr9
          have c12 := (PC_41 hL).1
          have hL := q11.2
          refine ai (q_callV (pc := 157) (As := [.int x1, .int v4]) (st := []) (st2 := [.int r9]) (b := 41) rfl rfl (by decide +kernel : decode k_P_Parting_settle.2.1 157 = .ok (.invokevirtual 96, 3)) lc_7_96 mo_P_Parting_withValue ⟨Nat.le_of_ble_eq_true rfl, Nat.le_of_ble_eq_true rfl⟩ (Nat.le_of_ble_eq_true rfl) (Nat.le_of_ble_eq_true rfl) c12 q11.1) ?_
          refine ai (e_istore (pc := 160) rfl (by decide +kernel : decode k_P_Parting_settle.2.1 160 = .ok (.istore 9, 2)) (by decide) rfl (ls2 := [(9, .int r9), (8, .int v4), (0, .ref 41), (1, .int x1), (3, .int x3), (4, .int x4), (5, .int x5), (6, .int x6), (7, .int x7)]) (i := 9)) ?_
          refine ai (r_iload (pc := 162) (k := 0) (by decide +kernel : decode k_P_Parting_settle.2.1 162 = .ok (.iload 9, 2)) rfl) ?_
          refine ai (r_iload (pc := 164) (k := 7) (by decide +kernel : decode k_P_Parting_settle.2.1 164 = .ok (.iload 6, 2)) rfl) ?_
          rcases ite_some h with ⟨c13, h⟩ | ⟨c13, h⟩
          · refine ai (r_icmp_gt_t (pc := 166) (tgt := 187) (by decide +kernel : decode k_P_Parting_settle.2.1 166 = .ok (.if_icmp .gt (21), 3)) (by decide) c13) ?_
            exact (ai (r_sub [2, 3, 4, 5, 6, 8, 1, 0] rfl) (P_Parting_settle_187_run (fun _ _ _ _ _ _ _ _ _ q1 q3 => ih q1 q3) hL h))
          · refine ai (r_icmp_gt_f (pc := 166) 187 (by decide +kernel : decode k_P_Parting_settle.2.1 166 = .ok (.if_icmp .gt (21), 3)) (by decide) c13) ?_
            refine ai (r_iload (pc := 169) (k := 0) (by decide +kernel : decode k_P_Parting_settle.2.1 169 = .ok (.iload 9, 2)) rfl) ?_
            refine ai (r_iload (pc := 171) (k := 7) (by decide +kernel : decode k_P_Parting_settle.2.1 171 = .ok (.iload 6, 2)) rfl) ?_
            rcases ite_some h with ⟨c14, h⟩ | ⟨c14, h⟩
            · refine ai (r_icmp_ne_f (pc := 173) 199 (by decide +kernel : decode k_P_Parting_settle.2.1 173 = .ok (.if_icmp .ne (26), 3)) (by decide) c14) ?_
              refine ai (r_iload (pc := 176) (k := 1) (by decide +kernel : decode k_P_Parting_settle.2.1 176 = .ok (.iload 8, 2)) rfl) ?_
              refine ai (p_aload_n (pc := 178) (k := 2) (by decide +kernel : decode k_P_Parting_settle.2.1 178 = .ok (.aload_n 0, 1)) rfl rfl) ?_
              refine ai (p_getr (pc := 179) (PR_903_41 hL) (by decide +kernel : decode k_P_Parting_settle.2.1 179 = .ok (.getfield 30, 3)) lg_7_30 (PC_41 hL).1) ?_
              refine ai (r_iload_n (pc := 182) (k := 3) (by decide +kernel : decode k_P_Parting_settle.2.1 182 = .ok (.iload_n 1, 1)) rfl rfl) ?_
              obtain ⟨g15, h⟩ := gd_some h
              refine ai (p_iald (pc := 183) (by decide +kernel : decode k_P_Parting_settle.2.1 183 = .ok (.iaload, 1)) (PC_48 hL).1 (PC_48 hL).2 g15) ?_
              rcases ite_some h with ⟨c16, h⟩ | ⟨c16, h⟩
              · refine ai (r_icmp_ge_t (pc := 184) (tgt := 199) (by decide +kernel : decode k_P_Parting_settle.2.1 184 = .ok (.if_icmp .ge (15), 3)) (by decide) c16) ?_
                exact (ai (r_sub [2, 3, 4, 5, 6, 7, 8] rfl) (P_Parting_settle_199_run (fun _ _ _ _ _ _ _ _ _ q1 q3 => ih q1 q3) hL h))
              · refine ai (r_icmp_ge_f (pc := 184) 199 (by decide +kernel : decode k_P_Parting_settle.2.1 184 = .ok (.if_icmp .ge (15), 3)) (by decide) c16) ?_
                exact (ai (r_sub [2, 3, 4, 5, 6, 8, 1, 0] rfl) (P_Parting_settle_187_run (fun _ _ _ _ _ _ _ _ _ q1 q3 => ih q1 q3) hL h))
            · refine ai (r_icmp_ne_t (pc := 173) (tgt := 199) (by decide +kernel : decode k_P_Parting_settle.2.1 173 = .ok (.if_icmp .ne (26), 3)) (by decide) c14) ?_
              exact (ai (r_sub [2, 3, 4, 5, 6, 7, 8] rfl) (P_Parting_settle_199_run (fun _ _ _ _ _ _ _ _ _ q1 q3 => ih q1 q3) hL h))
      · refine ai (r_icmp_ne_t (pc := 139) (tgt := 199) (by decide +kernel : decode k_P_Parting_settle.2.1 139 = .ok (.if_icmp .ne (60), 3)) (by decide) c6) ?_
        exact (ai (r_sub [1, 2, 3, 4, 5, 6, 7] rfl) (P_Parting_settle_199_run (fun _ _ _ _ _ _ _ _ _ q1 q3 => ih q1 q3) hL h))
set_option maxRecDepth 100000 in
set_option maxHeartbeats 4000000 in
theorem P_Parting_settle_82_run {x1 : Int32} {x3 : Int32} {x4 : Int32} {x5 : Int32} {m m' : Mem} {r : Int32} (hL : PL m) (h : P_Parting_settle_82 x1 x3 x4 x5 m = some (r, m')) : Run k_P_Parting_settle 82 [(0, .ref 41), (1, .int x1), (3, .int x3), (4, .int x4), (5, .int x5)] [] m (some (.int r)) m' ∧ PL m' := by
  unfold P_Parting_settle_82 at h
  refine ai (r_iload_n (pc := 82) (k := 2) (by decide +kernel : decode k_P_Parting_settle.2.1 82 = .ok (.iload_n 3, 1)) rfl rfl) ?_
  refine ai (r_iload (pc := 83) (k := 3) (by decide +kernel : decode k_P_Parting_settle.2.1 83 = .ok (.iload 4, 2)) rfl) ?_
  rcases ite_some h with ⟨c1, h⟩ | ⟨c1, h⟩
  · refine ai (r_icmp_le_t (pc := 85) (tgt := 90) (by decide +kernel : decode k_P_Parting_settle.2.1 85 = .ok (.if_icmp .le (5), 3)) (by decide) c1) ?_
    refine ai (p_aload_n (pc := 90) (k := 0) (by decide +kernel : decode k_P_Parting_settle.2.1 90 = .ok (.aload_n 0, 1)) rfl rfl) ?_
    refine ai (p_getr (pc := 91) (PR_903_41 hL) (by decide +kernel : decode k_P_Parting_settle.2.1 91 = .ok (.getfield 30, 3)) lg_7_30 (PC_41 hL).1) ?_
    refine ai (r_iload_n (pc := 94) (k := 1) (by decide +kernel : decode k_P_Parting_settle.2.1 94 = .ok (.iload_n 1, 1)) rfl rfl) ?_
    refine ai (r_iload_n (pc := 95) (k := 2) (by decide +kernel : decode k_P_Parting_settle.2.1 95 = .ok (.iload_n 3, 1)) rfl rfl) ?_
    obtain ⟨g2, h⟩ := gd_some h
    have c3 := (PC_48 hL).1
    have c4 := (PC_48 hL).2
    obtain ⟨m5, hm5, h⟩ := vb_some h
    have hL : PL m5 := by rw [hm5]; exact hL
    refine ai (p_iast (pc := 96) hm5 (by decide +kernel : decode k_P_Parting_settle.2.1 96 = .ok (.iastore, 1)) c3 c4 g2) ?_
    refine ai (p_aload_n (pc := 97) (k := 0) (by decide +kernel : decode k_P_Parting_settle.2.1 97 = .ok (.aload_n 0, 1)) rfl rfl) ?_
    refine ai (r_iload_n (pc := 98) (k := 1) (by decide +kernel : decode k_P_Parting_settle.2.1 98 = .ok (.iload_n 1, 1)) rfl rfl) ?_
    refine ai (r_iload_n (pc := 99) (k := 2) (by decide +kernel : decode k_P_Parting_settle.2.1 99 = .ok (.iload_n 3, 1)) rfl rfl) ?_
    obtain ⟨r6, m7, hr6, h⟩ := bn_some h
    have q8 := P_Parting_withValue_run hL hr6
    have c9 := (PC_41 hL).1
    have hL := q8.2
    refine ai (q_callV (pc := 100) (As := [.int x1, .int x3]) (st := []) (st2 := [.int r6]) (b := 41) rfl rfl (by decide +kernel : decode k_P_Parting_settle.2.1 100 = .ok (.invokevirtual 96, 3)) lc_7_96 mo_P_Parting_withValue ⟨Nat.le_of_ble_eq_true rfl, Nat.le_of_ble_eq_true rfl⟩ (Nat.le_of_ble_eq_true rfl) (Nat.le_of_ble_eq_true rfl) c9 q8.1) ?_
    refine ai (e_istore (pc := 103) rfl (by decide +kernel : decode k_P_Parting_settle.2.1 103 = .ok (.istore 6, 2)) (by decide) rfl (ls2 := [(6, .int r6), (0, .ref 41), (1, .int x1), (3, .int x3), (4, .int x4), (5, .int x5)]) (i := 6)) ?_
    refine ai (r_iconst (pc := 105) (by decide +kernel : decode k_P_Parting_settle.2.1 105 = .ok (.iconst 0, 1)) ic_0) ?_
    refine ai (e_istore (pc := 106) rfl (by decide +kernel : decode k_P_Parting_settle.2.1 106 = .ok (.istore 7, 2)) (by decide) rfl (ls2 := [(7, .int 0), (6, .int r6), (0, .ref 41), (1, .int x1), (3, .int x3), (4, .int x4), (5, .int x5)]) (i := 7)) ?_
    exact (ai (r_sub [2, 3, 4, 5, 6, 1, 0] rfl) (P_Parting_settle_108_run hL h))
  · refine ai (r_icmp_le_f (pc := 85) 90 (by decide +kernel : decode k_P_Parting_settle.2.1 85 = .ok (.if_icmp .le (5), 3)) (by decide) c1) ?_
    refine ai (r_iconst (pc := 88) (by decide +kernel : decode k_P_Parting_settle.2.1 88 = .ok (.iconst (-1), 1)) ic_m1) ?_
    cases h
    exact ⟨r_iret rfl (by decide +kernel : decode k_P_Parting_settle.2.1 89 = .ok (.ireturn, 1)), hL⟩
set_option maxRecDepth 100000 in
set_option maxHeartbeats 4000000 in
theorem P_Parting_settle_13_run {n : Nat} {x1 : Int32} {x2 : Int32} {x3 : Int32} {x4 : Int32} {x5 : Int32} {x6 : Int32} {m m' : Mem} {r : Int32} (hL : PL m) (h : P_Parting_settle_13 n x1 x2 x3 x4 x5 x6 m = some (r, m')) : Run k_P_Parting_settle 13 [(0, .ref 41), (1, .int x1), (2, .int x2), (3, .int x3), (4, .int x4), (5, .int x5), (6, .int x6)] [] m (some (.int r)) m' ∧ PL m' := by
  induction n generalizing x1 x2 x3 x4 x5 x6 m r m' with
  | zero => exact absurd h (by simp [P_Parting_settle_13])
  | succ n ih =>
    rw [P_Parting_settle_13.eq_2] at h
    refine ai (r_iload (pc := 13) (k := 6) (by decide +kernel : decode k_P_Parting_settle.2.1 13 = .ok (.iload 6, 2)) rfl) ?_
    refine ai (p_aload_n (pc := 15) (k := 0) (by decide +kernel : decode k_P_Parting_settle.2.1 15 = .ok (.aload_n 0, 1)) rfl rfl) ?_
    refine ai (r_getI (pc := 16) (by decide +kernel : decode k_P_Parting_settle.2.1 16 = .ok (.getfield 53, 3)) lg_7_53 (by decide) (PC_41 hL).1) ?_
    rcases ite_some h with ⟨c1, h⟩ | ⟨c1, h⟩
    · refine ai (r_icmp_ge_t (pc := 19) (tgt := 82) (by decide +kernel : decode k_P_Parting_settle.2.1 19 = .ok (.if_icmp .ge (63), 3)) (by decide) c1) ?_
      exact (ai (r_sub [0, 1, 3, 4, 5] rfl) (P_Parting_settle_82_run hL h))
    · refine ai (r_icmp_ge_f (pc := 19) 82 (by decide +kernel : decode k_P_Parting_settle.2.1 19 = .ok (.if_icmp .ge (63), 3)) (by decide) c1) ?_
      refine ai (p_aload_n (pc := 22) (k := 0) (by decide +kernel : decode k_P_Parting_settle.2.1 22 = .ok (.aload_n 0, 1)) rfl rfl) ?_
      refine ai (p_getr (pc := 23) (PR_902_41 hL) (by decide +kernel : decode k_P_Parting_settle.2.1 23 = .ok (.getfield 27, 3)) lg_7_27 (PC_41 hL).1) ?_
      refine ai (r_iload (pc := 26) (k := 6) (by decide +kernel : decode k_P_Parting_settle.2.1 26 = .ok (.iload 6, 2)) rfl) ?_
      obtain ⟨g2, h⟩ := gd_some h
      refine ai (p_iald (pc := 28) (by decide +kernel : decode k_P_Parting_settle.2.1 28 = .ok (.iaload, 1)) (PC_47 hL).1 (PC_47 hL).2 g2) ?_
      refine ai (r_iload_n (pc := 29) (k := 1) (by decide +kernel : decode k_P_Parting_settle.2.1 29 = .ok (.iload_n 1, 1)) rfl rfl) ?_
      rcases ite_some h with ⟨c3, h⟩ | ⟨c3, h⟩
      · refine ai (r_icmp_ne_f (pc := 30) 76 (by decide +kernel : decode k_P_Parting_settle.2.1 30 = .ok (.if_icmp .ne (46), 3)) (by decide) c3) ?_
        refine ai (r_iload_n (pc := 33) (k := 3) (by decide +kernel : decode k_P_Parting_settle.2.1 33 = .ok (.iload_n 3, 1)) rfl rfl) ?_
        refine ai (p_aload_n (pc := 34) (k := 0) (by decide +kernel : decode k_P_Parting_settle.2.1 34 = .ok (.aload_n 0, 1)) rfl rfl) ?_
        refine ai (p_getr (pc := 35) (PR_896_41 hL) (by decide +kernel : decode k_P_Parting_settle.2.1 35 = .ok (.getfield 9, 3)) lg_7_9 (PC_41 hL).1) ?_
        refine ai (p_aload_n (pc := 38) (k := 0) (by decide +kernel : decode k_P_Parting_settle.2.1 38 = .ok (.aload_n 0, 1)) rfl rfl) ?_
        refine ai (p_getr (pc := 39) (PR_900_41 hL) (by decide +kernel : decode k_P_Parting_settle.2.1 39 = .ok (.getfield 24, 3)) lg_7_24 (PC_41 hL).1) ?_
        refine ai (r_iload (pc := 42) (k := 6) (by decide +kernel : decode k_P_Parting_settle.2.1 42 = .ok (.iload 6, 2)) rfl) ?_
        obtain ⟨g4, h⟩ := gd_some h
        refine ai (p_iald (pc := 44) (by decide +kernel : decode k_P_Parting_settle.2.1 44 = .ok (.iaload, 1)) (PC_46 hL).1 (PC_46 hL).2 g4) ?_
        obtain ⟨g5, h⟩ := gd_some h
        refine ai (p_iald (pc := 45) (by decide +kernel : decode k_P_Parting_settle.2.1 45 = .ok (.iaload, 1)) (PC_42 hL).1 (PC_42 hL).2 g5) ?_
        refine ai (r_iload_n (pc := 46) (k := 2) (by decide +kernel : decode k_P_Parting_settle.2.1 46 = .ok (.iload_n 2, 1)) rfl rfl) ?_
        refine ai (r_isub (pc := 47) (by decide +kernel : decode k_P_Parting_settle.2.1 47 = .ok (.isub, 1))) ?_
        refine ai (r_mmax (pc := 48) (by decide +kernel : decode k_P_Parting_settle.2.1 48 = .ok (.invokestatic 71, 3)) lm_7_71 lm_mmax_st lm_math lm_mmax_cd ⟨by decide, by decide⟩ (Nat.le_of_ble_eq_true rfl)) ?_
        obtain ⟨v6, hv6, h⟩ := vb_some h
        refine ai (e_istore_n (pc := 51) hv6 (by decide +kernel : decode k_P_Parting_settle.2.1 51 = .ok (.istore_n 3, 1)) rfl (by decide) rfl (ls2 := [(3, .int v6), (0, .ref 41), (1, .int x1), (2, .int x2), (4, .int x4), (5, .int x5), (6, .int x6)]) (i := 3)) ?_
        refine ai (r_iload (pc := 52) (k := 4) (by decide +kernel : decode k_P_Parting_settle.2.1 52 = .ok (.iload 4, 2)) rfl) ?_
        refine ai (p_aload_n (pc := 54) (k := 1) (by decide +kernel : decode k_P_Parting_settle.2.1 54 = .ok (.aload_n 0, 1)) rfl rfl) ?_
        refine ai (p_getr (pc := 55) (PR_896_41 hL) (by decide +kernel : decode k_P_Parting_settle.2.1 55 = .ok (.getfield 9, 3)) lg_7_9 (PC_41 hL).1) ?_
        refine ai (p_aload_n (pc := 58) (k := 1) (by decide +kernel : decode k_P_Parting_settle.2.1 58 = .ok (.aload_n 0, 1)) rfl rfl) ?_
        refine ai (p_getr (pc := 59) (PR_900_41 hL) (by decide +kernel : decode k_P_Parting_settle.2.1 59 = .ok (.getfield 24, 3)) lg_7_24 (PC_41 hL).1) ?_
        refine ai (r_iload (pc := 62) (k := 6) (by decide +kernel : decode k_P_Parting_settle.2.1 62 = .ok (.iload 6, 2)) rfl) ?_
        obtain ⟨g7, h⟩ := gd_some h
        refine ai (p_iald (pc := 64) (by decide +kernel : decode k_P_Parting_settle.2.1 64 = .ok (.iaload, 1)) (PC_46 hL).1 (PC_46 hL).2 g7) ?_
        obtain ⟨g8, h⟩ := gd_some h
        refine ai (p_iald (pc := 65) (by decide +kernel : decode k_P_Parting_settle.2.1 65 = .ok (.iaload, 1)) (PC_42 hL).1 (PC_42 hL).2 g8) ?_
        refine ai (r_iload_n (pc := 66) (k := 3) (by decide +kernel : decode k_P_Parting_settle.2.1 66 = .ok (.iload_n 2, 1)) rfl rfl) ?_
        refine ai (r_iadd (pc := 67) (by decide +kernel : decode k_P_Parting_settle.2.1 67 = .ok (.iadd, 1))) ?_
        refine ai (r_mmin (pc := 68) (by decide +kernel : decode k_P_Parting_settle.2.1 68 = .ok (.invokestatic 93, 3)) lm_7_93 lm_mmin_st lm_math lm_mmin_cd ⟨by decide, by decide⟩ (Nat.le_of_ble_eq_true rfl)) ?_
        obtain ⟨v9, hv9, h⟩ := vb_some h
        refine ai (e_istore (pc := 71) hv9 (by decide +kernel : decode k_P_Parting_settle.2.1 71 = .ok (.istore 4, 2)) (by decide) rfl (ls2 := [(4, .int v9), (3, .int v6), (0, .ref 41), (1, .int x1), (2, .int x2), (5, .int x5), (6, .int x6)]) (i := 4)) ?_
        obtain ⟨v10, hv10, h⟩ := vb_some h
        refine ai (e_iinc (pc := 73) (k := 5) hv10 ic_1 (by decide +kernel : decode k_P_Parting_settle.2.1 73 = .ok (.iinc 5 (1), 3)) rfl (by decide) rfl (ls2 := [(5, .int v10), (4, .int v9), (3, .int v6), (0, .ref 41), (1, .int x1), (2, .int x2), (6, .int x6)]) (i := 5)) ?_
        exact (ai (r_sub [3, 4, 5, 2, 1, 0, 6] rfl) (P_Parting_settle_76_run (fun _ _ _ _ _ _ _ _ _ q1 q3 => ih q1 q3) hL h))
      · refine ai (r_icmp_ne_t (pc := 30) (tgt := 76) (by decide +kernel : decode k_P_Parting_settle.2.1 30 = .ok (.if_icmp .ne (46), 3)) (by decide) c3) ?_
        exact (P_Parting_settle_76_run (fun _ _ _ _ _ _ _ _ _ q1 q3 => ih q1 q3) hL h)
set_option maxRecDepth 100000 in
set_option maxHeartbeats 4000000 in
theorem P_Parting_settle_run {x1 : Int32} {x2 : Int32} {m m' : Mem} {r : Int32} (hL : PL m) (h : P_Parting_settle x1 x2 m = some (r, m')) : Run k_P_Parting_settle 0 [(0, .ref 41), (1, .int x1), (2, .int x2)] [] m (some (.int r)) m' ∧ PL m' := by
  unfold P_Parting_settle at h
  refine ai (r_iconst (pc := 0) (by decide +kernel : decode k_P_Parting_settle.2.1 0 = .ok (.iconst 0, 1)) ic_0) ?_
  refine ai (e_istore_n (pc := 1) rfl (by decide +kernel : decode k_P_Parting_settle.2.1 1 = .ok (.istore_n 3, 1)) rfl (by decide) rfl (ls2 := [(3, .int 0), (0, .ref 41), (1, .int x1), (2, .int x2)]) (i := 3)) ?_
  refine ai (r_sipush (pc := 2) (by decide +kernel : decode k_P_Parting_settle.2.1 2 = .ok (.sipush (9999), 3)) (by decide : _ = (9999 : Int32))) ?_
  refine ai (e_istore (pc := 5) rfl (by decide +kernel : decode k_P_Parting_settle.2.1 5 = .ok (.istore 4, 2)) (by decide) rfl (ls2 := [(4, .int 9999), (3, .int 0), (0, .ref 41), (1, .int x1), (2, .int x2)]) (i := 4)) ?_
  refine ai (r_iconst (pc := 7) (by decide +kernel : decode k_P_Parting_settle.2.1 7 = .ok (.iconst 0, 1)) ic_0) ?_
  refine ai (e_istore (pc := 8) rfl (by decide +kernel : decode k_P_Parting_settle.2.1 8 = .ok (.istore 5, 2)) (by decide) rfl (ls2 := [(5, .int 0), (4, .int 9999), (3, .int 0), (0, .ref 41), (1, .int x1), (2, .int x2)]) (i := 5)) ?_
  refine ai (r_iconst (pc := 10) (by decide +kernel : decode k_P_Parting_settle.2.1 10 = .ok (.iconst 0, 1)) ic_0) ?_
  refine ai (e_istore (pc := 11) rfl (by decide +kernel : decode k_P_Parting_settle.2.1 11 = .ok (.istore 6, 2)) (by decide) rfl (ls2 := [(6, .int 0), (5, .int 0), (4, .int 9999), (3, .int 0), (0, .ref 41), (1, .int x1), (2, .int x2)]) (i := 6)) ?_
  exact (ai (r_sub [4, 5, 6, 3, 2, 1, 0] rfl) (P_Parting_settle_13_run hL h))
set_option maxRecDepth 100000 in
set_option maxHeartbeats 4000000 in
theorem P_Parting_weigh_47_run {k21 : Int32 → Int32 → Int32 → Int32 → Mem → Option (Unit × Mem)} {x2 : Int32} {x3 : Int32} {x4 : Int32} {x5 : Int32} {s0 : Int32} {m m' : Mem} {r : Unit} (hk21 : ∀ (x2 : Int32) (x3 : Int32) (x4 : Int32) (x5 : Int32) (m : Mem) (r : Unit) (m' : Mem), PL m → k21 x2 x3 x4 x5 m = some (r, m') → Run k_P_Parting_weigh 21 [(0, .ref 41), (2, .int x2), (3, .int x3), (4, .int x4), (5, .int x5)] [] m none m' ∧ PL m') (hL : PL m) (h : P_Parting_weigh_47 k21 x2 x3 x4 x5 s0 m = some (r, m')) : Run k_P_Parting_weigh 47 [(0, .ref 41), (2, .int x2), (3, .int x3), (4, .int x4), (5, .int x5)] [.int s0] m none m' ∧ PL m' := by
  unfold P_Parting_weigh_47 at h
  refine ai (e_istore (pc := 47) rfl (by decide +kernel : decode k_P_Parting_weigh.2.1 47 = .ok (.istore 6, 2)) (by decide) rfl (ls2 := [(6, .int s0), (0, .ref 41), (2, .int x2), (3, .int x3), (4, .int x4), (5, .int x5)]) (i := 6)) ?_
  refine ai (r_iload (pc := 49) (k := 0) (by decide +kernel : decode k_P_Parting_weigh.2.1 49 = .ok (.iload 6, 2)) rfl) ?_
  refine ai (r_iconst (pc := 51) (by decide +kernel : decode k_P_Parting_weigh.2.1 51 = .ok (.iconst (-1), 1)) ic_m1) ?_
  rcases ite_some h with ⟨c1, h⟩ | ⟨c1, h⟩
  · refine ai (r_icmp_ne_f (pc := 52) 56 (by decide +kernel : decode k_P_Parting_weigh.2.1 52 = .ok (.if_icmp .ne (4), 3)) (by decide) c1) ?_
    cases h
    exact ⟨r_vret rfl (by decide +kernel : decode k_P_Parting_weigh.2.1 55 = .ok (.return_, 1)), hL⟩
  · refine ai (r_icmp_ne_t (pc := 52) (tgt := 56) (by decide +kernel : decode k_P_Parting_weigh.2.1 52 = .ok (.if_icmp .ne (4), 3)) (by decide) c1) ?_
    refine ai (r_iload (pc := 56) (k := 4) (by decide +kernel : decode k_P_Parting_weigh.2.1 56 = .ok (.iload 4, 2)) rfl) ?_
    refine ai (r_iload (pc := 58) (k := 0) (by decide +kernel : decode k_P_Parting_weigh.2.1 58 = .ok (.iload 6, 2)) rfl) ?_
    refine ai (r_iadd (pc := 60) (by decide +kernel : decode k_P_Parting_weigh.2.1 60 = .ok (.iadd, 1))) ?_
    obtain ⟨v2, hv2, h⟩ := vb_some h
    refine ai (e_istore (pc := 61) hv2 (by decide +kernel : decode k_P_Parting_weigh.2.1 61 = .ok (.istore 4, 2)) (by decide) rfl (ls2 := [(4, .int v2), (6, .int s0), (0, .ref 41), (2, .int x2), (3, .int x3), (5, .int x5)]) (i := 4)) ?_
    obtain ⟨v3, hv3, h⟩ := vb_some h
    refine ai (e_iinc (pc := 63) (k := 5) hv3 ic_1 (by decide +kernel : decode k_P_Parting_weigh.2.1 63 = .ok (.iinc 5 (1), 3)) rfl (by decide) rfl (ls2 := [(5, .int v3), (4, .int v2), (6, .int s0), (0, .ref 41), (2, .int x2), (3, .int x3)]) (i := 5)) ?_
    refine ai (r_goto (pc := 66) (tgt := 21) (by decide +kernel : decode k_P_Parting_weigh.2.1 66 = .ok (.goto (-45), 3)) (by decide)) ?_
    exact (ai (r_sub [3, 4, 5, 1, 0] rfl) (hk21 x2 x3 v2 v3 m _ _ hL h))
set_option maxRecDepth 100000 in
set_option maxHeartbeats 4000000 in
theorem P_Parting_weigh_103_run {x3 : Int32} {x4 : Int32} {m m' : Mem} {r : Unit} (hL : PL m) (h : P_Parting_weigh_103 x3 x4 m = some (r, m')) : Run k_P_Parting_weigh 103 [(0, .ref 41), (3, .int x3), (4, .int x4)] [] m none m' ∧ PL m' := by
  unfold P_Parting_weigh_103 at h
  refine ai (p_aload_n (pc := 103) (k := 0) (by decide +kernel : decode k_P_Parting_weigh.2.1 103 = .ok (.aload_n 0, 1)) rfl rfl) ?_
  refine ai (r_iload (pc := 104) (k := 2) (by decide +kernel : decode k_P_Parting_weigh.2.1 104 = .ok (.iload 4, 2)) rfl) ?_
  have c1 := (PC_41 hL).1
  obtain ⟨m2, hm2, h⟩ := vb_some h
  have hL : PL m2 := by rw [hm2]; exact hL
  refine ai (p_putI (pc := 106) hm2 (by decide +kernel : decode k_P_Parting_weigh.2.1 106 = .ok (.putfield 49, 3)) lp_7_49 c1) ?_
  refine ai (p_aload_n (pc := 109) (k := 0) (by decide +kernel : decode k_P_Parting_weigh.2.1 109 = .ok (.aload_n 0, 1)) rfl rfl) ?_
  refine ai (r_iload_n (pc := 110) (k := 1) (by decide +kernel : decode k_P_Parting_weigh.2.1 110 = .ok (.iload_n 3, 1)) rfl rfl) ?_
  have c3 := (PC_41 hL).1
  obtain ⟨m4, hm4, h⟩ := vb_some h
  have hL : PL m4 := by rw [hm4]; exact hL
  refine ai (p_putI (pc := 111) hm4 (by decide +kernel : decode k_P_Parting_weigh.2.1 111 = .ok (.putfield 84, 3)) lp_7_84 c3) ?_
  refine ai (p_aload_n (pc := 114) (k := 0) (by decide +kernel : decode k_P_Parting_weigh.2.1 114 = .ok (.aload_n 0, 1)) rfl rfl) ?_
  refine ai (p_getr (pc := 115) (PR_902_41 hL) (by decide +kernel : decode k_P_Parting_weigh.2.1 115 = .ok (.getfield 27, 3)) lg_7_27 (PC_41 hL).1) ?_
  refine ai (r_iconst (pc := 118) (by decide +kernel : decode k_P_Parting_weigh.2.1 118 = .ok (.iconst 0, 1)) ic_0) ?_
  refine ai (p_aload_n (pc := 119) (k := 0) (by decide +kernel : decode k_P_Parting_weigh.2.1 119 = .ok (.aload_n 0, 1)) rfl rfl) ?_
  refine ai (p_getr (pc := 120) (PR_904_41 hL) (by decide +kernel : decode k_P_Parting_weigh.2.1 120 = .ok (.getfield 33, 3)) lg_7_33 (PC_41 hL).1) ?_
  refine ai (r_iconst (pc := 123) (by decide +kernel : decode k_P_Parting_weigh.2.1 123 = .ok (.iconst 0, 1)) ic_0) ?_
  refine ai (p_aload_n (pc := 124) (k := 0) (by decide +kernel : decode k_P_Parting_weigh.2.1 124 = .ok (.aload_n 0, 1)) rfl rfl) ?_
  refine ai (r_getI (pc := 125) (by decide +kernel : decode k_P_Parting_weigh.2.1 125 = .ok (.getfield 53, 3)) lg_7_53 (by decide) (PC_41 hL).1) ?_
  have c5 := (PC_47 hL).1
  have c6 := (PC_49 hL).1
  obtain ⟨g7, h⟩ := gd_some h
  obtain ⟨m8, hm8, h⟩ := vb_some h
  have hL : PL m8 := by rw [hm8]; exact hL
  refine ai (r_acopy (pc := 128) hm8 (by decide +kernel : decode k_P_Parting_weigh.2.1 128 = .ok (.invokestatic 87, 3)) ly_7_87 ly_nat ly_st ly_ini ⟨by decide, by decide⟩ (Nat.le_of_ble_eq_true rfl) c5 c6 g7) ?_
  refine ai (p_aload_n (pc := 131) (k := 0) (by decide +kernel : decode k_P_Parting_weigh.2.1 131 = .ok (.aload_n 0, 1)) rfl rfl) ?_
  refine ai (p_getr (pc := 132) (PR_903_41 hL) (by decide +kernel : decode k_P_Parting_weigh.2.1 132 = .ok (.getfield 30, 3)) lg_7_30 (PC_41 hL).1) ?_
  refine ai (r_iconst (pc := 135) (by decide +kernel : decode k_P_Parting_weigh.2.1 135 = .ok (.iconst 0, 1)) ic_0) ?_
  refine ai (p_aload_n (pc := 136) (k := 0) (by decide +kernel : decode k_P_Parting_weigh.2.1 136 = .ok (.aload_n 0, 1)) rfl rfl) ?_
  refine ai (p_getr (pc := 137) (PR_905_41 hL) (by decide +kernel : decode k_P_Parting_weigh.2.1 137 = .ok (.getfield 36, 3)) lg_7_36 (PC_41 hL).1) ?_
  refine ai (r_iconst (pc := 140) (by decide +kernel : decode k_P_Parting_weigh.2.1 140 = .ok (.iconst 0, 1)) ic_0) ?_
  refine ai (p_aload_n (pc := 141) (k := 0) (by decide +kernel : decode k_P_Parting_weigh.2.1 141 = .ok (.aload_n 0, 1)) rfl rfl) ?_
  refine ai (r_getI (pc := 142) (by decide +kernel : decode k_P_Parting_weigh.2.1 142 = .ok (.getfield 53, 3)) lg_7_53 (by decide) (PC_41 hL).1) ?_
  have c9 := (PC_48 hL).1
  have c10 := (PC_50 hL).1
  obtain ⟨g11, h⟩ := gd_some h
  obtain ⟨m12, hm12, h⟩ := vb_some h
  have hL : PL m12 := by rw [hm12]; exact hL
  refine ai (r_acopy (pc := 145) hm12 (by decide +kernel : decode k_P_Parting_weigh.2.1 145 = .ok (.invokestatic 87, 3)) ly_7_87 ly_nat ly_st ly_ini ⟨by decide, by decide⟩ (Nat.le_of_ble_eq_true rfl) c9 c10 g11) ?_
  cases h
  exact ⟨r_vret rfl (by decide +kernel : decode k_P_Parting_weigh.2.1 148 = .ok (.return_, 1)), hL⟩
set_option maxRecDepth 100000 in
set_option maxHeartbeats 4000000 in
theorem P_Parting_weigh_69_run {x3 : Int32} {x4 : Int32} {m m' : Mem} {r : Unit} (hL : PL m) (h : P_Parting_weigh_69 x3 x4 m = some (r, m')) : Run k_P_Parting_weigh 69 [(0, .ref 41), (3, .int x3), (4, .int x4)] [] m none m' ∧ PL m' := by
  unfold P_Parting_weigh_69 at h
  refine ai (p_aload_n (pc := 69) (k := 0) (by decide +kernel : decode k_P_Parting_weigh.2.1 69 = .ok (.aload_n 0, 1)) rfl rfl) ?_
  refine ai (r_getI (pc := 70) (by decide +kernel : decode k_P_Parting_weigh.2.1 70 = .ok (.getfield 49, 3)) lg_7_49 (by decide) (PC_41 hL).1) ?_
  refine ai (r_iconst (pc := 73) (by decide +kernel : decode k_P_Parting_weigh.2.1 73 = .ok (.iconst (-1), 1)) ic_m1) ?_
  rcases ite_some h with ⟨c1, h⟩ | ⟨c1, h⟩
  · refine ai (r_icmp_eq_t (pc := 74) (tgt := 103) (by decide +kernel : decode k_P_Parting_weigh.2.1 74 = .ok (.if_icmp .eq (29), 3)) (by decide) c1) ?_
    exact (P_Parting_weigh_103_run hL h)
  · refine ai (r_icmp_eq_f (pc := 74) 103 (by decide +kernel : decode k_P_Parting_weigh.2.1 74 = .ok (.if_icmp .eq (29), 3)) (by decide) c1) ?_
    refine ai (r_iload (pc := 77) (k := 2) (by decide +kernel : decode k_P_Parting_weigh.2.1 77 = .ok (.iload 4, 2)) rfl) ?_
    refine ai (p_aload_n (pc := 79) (k := 0) (by decide +kernel : decode k_P_Parting_weigh.2.1 79 = .ok (.aload_n 0, 1)) rfl rfl) ?_
    refine ai (r_getI (pc := 80) (by decide +kernel : decode k_P_Parting_weigh.2.1 80 = .ok (.getfield 49, 3)) lg_7_49 (by decide) (PC_41 hL).1) ?_
    rcases ite_some h with ⟨c2, h⟩ | ⟨c2, h⟩
    · refine ai (r_icmp_lt_t (pc := 83) (tgt := 103) (by decide +kernel : decode k_P_Parting_weigh.2.1 83 = .ok (.if_icmp .lt (20), 3)) (by decide) c2) ?_
      exact (P_Parting_weigh_103_run hL h)
    · refine ai (r_icmp_lt_f (pc := 83) 103 (by decide +kernel : decode k_P_Parting_weigh.2.1 83 = .ok (.if_icmp .lt (20), 3)) (by decide) c2) ?_
      refine ai (r_iload (pc := 86) (k := 2) (by decide +kernel : decode k_P_Parting_weigh.2.1 86 = .ok (.iload 4, 2)) rfl) ?_
      refine ai (p_aload_n (pc := 88) (k := 0) (by decide +kernel : decode k_P_Parting_weigh.2.1 88 = .ok (.aload_n 0, 1)) rfl rfl) ?_
      refine ai (r_getI (pc := 89) (by decide +kernel : decode k_P_Parting_weigh.2.1 89 = .ok (.getfield 49, 3)) lg_7_49 (by decide) (PC_41 hL).1) ?_
      rcases ite_some h with ⟨c3, h⟩ | ⟨c3, h⟩
      · refine ai (r_icmp_ne_f (pc := 92) 148 (by decide +kernel : decode k_P_Parting_weigh.2.1 92 = .ok (.if_icmp .ne (56), 3)) (by decide) c3) ?_
        refine ai (r_iload_n (pc := 95) (k := 1) (by decide +kernel : decode k_P_Parting_weigh.2.1 95 = .ok (.iload_n 3, 1)) rfl rfl) ?_
        refine ai (p_aload_n (pc := 96) (k := 0) (by decide +kernel : decode k_P_Parting_weigh.2.1 96 = .ok (.aload_n 0, 1)) rfl rfl) ?_
        refine ai (r_getI (pc := 97) (by decide +kernel : decode k_P_Parting_weigh.2.1 97 = .ok (.getfield 84, 3)) lg_7_84 (by decide) (PC_41 hL).1) ?_
        rcases ite_some h with ⟨c4, h⟩ | ⟨c4, h⟩
        · refine ai (r_icmp_ge_t (pc := 100) (tgt := 148) (by decide +kernel : decode k_P_Parting_weigh.2.1 100 = .ok (.if_icmp .ge (48), 3)) (by decide) c4) ?_
          cases h
          exact ⟨r_vret rfl (by decide +kernel : decode k_P_Parting_weigh.2.1 148 = .ok (.return_, 1)), hL⟩
        · refine ai (r_icmp_ge_f (pc := 100) 148 (by decide +kernel : decode k_P_Parting_weigh.2.1 100 = .ok (.if_icmp .ge (48), 3)) (by decide) c4) ?_
          exact (P_Parting_weigh_103_run hL h)
      · refine ai (r_icmp_ne_t (pc := 92) (tgt := 148) (by decide +kernel : decode k_P_Parting_weigh.2.1 92 = .ok (.if_icmp .ne (56), 3)) (by decide) c3) ?_
        cases h
        exact ⟨r_vret rfl (by decide +kernel : decode k_P_Parting_weigh.2.1 148 = .ok (.return_, 1)), hL⟩
set_option maxRecDepth 100000 in
set_option maxHeartbeats 4000000 in
theorem P_Parting_weigh_21_run {n : Nat} {x2 : Int32} {x3 : Int32} {x4 : Int32} {x5 : Int32} {m m' : Mem} {r : Unit} (hL : PL m) (h : P_Parting_weigh_21 n x2 x3 x4 x5 m = some (r, m')) : Run k_P_Parting_weigh 21 [(0, .ref 41), (2, .int x2), (3, .int x3), (4, .int x4), (5, .int x5)] [] m none m' ∧ PL m' := by
  induction n generalizing x2 x3 x4 x5 m r m' with
  | zero => exact absurd h (by simp [P_Parting_weigh_21])
  | succ n ih =>
    rw [P_Parting_weigh_21.eq_2] at h
    refine ai (r_iload (pc := 21) (k := 4) (by decide +kernel : decode k_P_Parting_weigh.2.1 21 = .ok (.iload 5, 2)) rfl) ?_
    refine ai (r_iload_n (pc := 23) (k := 2) (by decide +kernel : decode k_P_Parting_weigh.2.1 23 = .ok (.iload_n 3, 1)) rfl rfl) ?_
    rcases ite_some h with ⟨c1, h⟩ | ⟨c1, h⟩
    · refine ai (r_icmp_ge_t (pc := 24) (tgt := 69) (by decide +kernel : decode k_P_Parting_weigh.2.1 24 = .ok (.if_icmp .ge (45), 3)) (by decide) c1) ?_
      exact (ai (r_sub [0, 2, 3] rfl) (P_Parting_weigh_69_run hL h))
    · refine ai (r_icmp_ge_f (pc := 24) 69 (by decide +kernel : decode k_P_Parting_weigh.2.1 24 = .ok (.if_icmp .ge (45), 3)) (by decide) c1) ?_
      refine ai (p_aload_n (pc := 27) (k := 0) (by decide +kernel : decode k_P_Parting_weigh.2.1 27 = .ok (.aload_n 0, 1)) rfl rfl) ?_
      refine ai (r_iload (pc := 28) (k := 4) (by decide +kernel : decode k_P_Parting_weigh.2.1 28 = .ok (.iload 5, 2)) rfl) ?_
      obtain ⟨r2, m3, hr2, h⟩ := bn_some h
      have q4 := P_Parting_isTorn_run hL hr2
      have c5 := (PC_41 hL).1
      have hL := q4.2
      refine ai (q_callV (pc := 30) (As := [.int x5]) (st := []) (st2 := [.int r2]) (b := 41) rfl rfl (by decide +kernel : decode k_P_Parting_weigh.2.1 30 = .ok (.invokevirtual 77, 3)) lc_7_77 mo_P_Parting_isTorn ⟨Nat.le_of_ble_eq_true rfl, Nat.le_of_ble_eq_true rfl⟩ (Nat.le_of_ble_eq_true rfl) (Nat.le_of_ble_eq_true rfl) c5 q4.1) ?_
      rcases ite_some h with ⟨c6, h⟩ | ⟨c6, h⟩
      · refine ai (r_if_eq_t (pc := 33) (tgt := 40) (by decide +kernel : decode k_P_Parting_weigh.2.1 33 = .ok (.ifCond .eq (7), 3)) (by decide) c6) ?_
        refine ai (p_aload_n (pc := 40) (k := 0) (by decide +kernel : decode k_P_Parting_weigh.2.1 40 = .ok (.aload_n 0, 1)) rfl rfl) ?_
        refine ai (r_iload (pc := 41) (k := 4) (by decide +kernel : decode k_P_Parting_weigh.2.1 41 = .ok (.iload 5, 2)) rfl) ?_
        refine ai (r_iload_n (pc := 43) (k := 1) (by decide +kernel : decode k_P_Parting_weigh.2.1 43 = .ok (.iload_n 2, 1)) rfl rfl) ?_
        obtain ⟨r7, m8, hr7, h⟩ := bn_some h
        have q9 := P_Parting_settle_run hL hr7
        have c10 := (PC_41 hL).1
        have hL := q9.2
        refine ai (q_callV (pc := 44) (As := [.int x5, .int x2]) (st := []) (st2 := [.int r7]) (b := 41) rfl rfl (by decide +kernel : decode k_P_Parting_weigh.2.1 44 = .ok (.invokevirtual 81, 3)) lc_7_81 mo_P_Parting_settle ⟨Nat.le_of_ble_eq_true rfl, Nat.le_of_ble_eq_true rfl⟩ (Nat.le_of_ble_eq_true rfl) (Nat.le_of_ble_eq_true rfl) c10 q9.1) ?_
        exact (P_Parting_weigh_47_run (fun _ _ _ _ _ _ _ q1 q3 => ih q1 q3) hL h)
      · refine ai (r_if_eq_f (pc := 33) 40 (by decide +kernel : decode k_P_Parting_weigh.2.1 33 = .ok (.ifCond .eq (7), 3)) (by decide) c6) ?_
        refine ai (r_iconst (pc := 36) (by decide +kernel : decode k_P_Parting_weigh.2.1 36 = .ok (.iconst (-1), 1)) ic_m1) ?_
        refine ai (r_goto (pc := 37) (tgt := 47) (by decide +kernel : decode k_P_Parting_weigh.2.1 37 = .ok (.goto (10), 3)) (by decide)) ?_
        exact (P_Parting_weigh_47_run (fun _ _ _ _ _ _ _ q1 q3 => ih q1 q3) hL h)
set_option maxRecDepth 100000 in
set_option maxHeartbeats 4000000 in
theorem P_Parting_weigh_run {x1 : Int32} {x2 : Int32} {m m' : Mem} {r : Unit} (hL : PL m) (h : P_Parting_weigh x1 x2 m = some (r, m')) : Run k_P_Parting_weigh 0 [(0, .ref 41), (1, .int x1), (2, .int x2)] [] m none m' ∧ PL m' := by
  unfold P_Parting_weigh at h
  refine ai (p_aload_n (pc := 0) (k := 0) (by decide +kernel : decode k_P_Parting_weigh.2.1 0 = .ok (.aload_n 0, 1)) rfl rfl) ?_
  refine ai (p_aload_n (pc := 1) (k := 0) (by decide +kernel : decode k_P_Parting_weigh.2.1 1 = .ok (.aload_n 0, 1)) rfl rfl) ?_
  refine ai (r_getI (pc := 2) (by decide +kernel : decode k_P_Parting_weigh.2.1 2 = .ok (.getfield 53, 3)) lg_7_53 (by decide) (PC_41 hL).1) ?_
  obtain ⟨r1, m2, hr1, h⟩ := bn_some h
  have q3 := P_Parting_groupsAmong_run hL hr1
  have c4 := (PC_41 hL).1
  have hL := q3.2
  refine ai (q_callV (pc := 5) (As := [.int (mI m 901 41)]) (st := []) (st2 := [.int r1]) (b := 41) rfl rfl (by decide +kernel : decode k_P_Parting_weigh.2.1 5 = .ok (.invokevirtual 67, 3)) lc_7_67 mo_P_Parting_groupsAmong ⟨Nat.le_of_ble_eq_true rfl, Nat.le_of_ble_eq_true rfl⟩ (Nat.le_of_ble_eq_true rfl) (Nat.le_of_ble_eq_true rfl) c4 q3.1) ?_
  refine ai (e_istore_n (pc := 8) rfl (by decide +kernel : decode k_P_Parting_weigh.2.1 8 = .ok (.istore_n 3, 1)) rfl (by decide) rfl (ls2 := [(3, .int r1), (0, .ref 41), (1, .int x1), (2, .int x2)]) (i := 3)) ?_
  refine ai (r_iload_n (pc := 9) (k := 0) (by decide +kernel : decode k_P_Parting_weigh.2.1 9 = .ok (.iload_n 3, 1)) rfl rfl) ?_
  refine ai (r_iload_n (pc := 10) (k := 2) (by decide +kernel : decode k_P_Parting_weigh.2.1 10 = .ok (.iload_n 1, 1)) rfl rfl) ?_
  rcases ite_some h with ⟨c5, h⟩ | ⟨c5, h⟩
  · refine ai (r_icmp_le_t (pc := 11) (tgt := 15) (by decide +kernel : decode k_P_Parting_weigh.2.1 11 = .ok (.if_icmp .le (4), 3)) (by decide) c5) ?_
    refine ai (r_iconst (pc := 15) (by decide +kernel : decode k_P_Parting_weigh.2.1 15 = .ok (.iconst 0, 1)) ic_0) ?_
    refine ai (e_istore (pc := 16) rfl (by decide +kernel : decode k_P_Parting_weigh.2.1 16 = .ok (.istore 4, 2)) (by decide) rfl (ls2 := [(4, .int 0), (3, .int r1), (0, .ref 41), (1, .int x1), (2, .int x2)]) (i := 4)) ?_
    refine ai (r_iconst (pc := 18) (by decide +kernel : decode k_P_Parting_weigh.2.1 18 = .ok (.iconst 0, 1)) ic_0) ?_
    refine ai (e_istore (pc := 19) rfl (by decide +kernel : decode k_P_Parting_weigh.2.1 19 = .ok (.istore 5, 2)) (by decide) rfl (ls2 := [(5, .int 0), (4, .int 0), (3, .int r1), (0, .ref 41), (1, .int x1), (2, .int x2)]) (i := 5)) ?_
    exact (ai (r_sub [3, 5, 2, 1, 0] rfl) (P_Parting_weigh_21_run hL h))
  · refine ai (r_icmp_le_f (pc := 11) 15 (by decide +kernel : decode k_P_Parting_weigh.2.1 11 = .ok (.if_icmp .le (4), 3)) (by decide) c5) ?_
    cases h
    exact ⟨r_vret rfl (by decide +kernel : decode k_P_Parting_weigh.2.1 14 = .ok (.return_, 1)), hL⟩
set_option maxRecDepth 100000 in
set_option maxHeartbeats 4000000 in
theorem P_Parting_nextWay_39_run {n : Nat} {x2 : Int32} {m m' : Mem} {r : Int32} (hL : PL m) (h : P_Parting_nextWay_39 n x2 m = some (r, m')) : Run k_P_Parting_nextWay 39 [(0, .ref 41), (2, .int x2)] [] m (some (.int r)) m' ∧ PL m' := by
  induction n generalizing x2 m r m' with
  | zero => exact absurd h (by simp [P_Parting_nextWay_39])
  | succ n ih =>
    rw [P_Parting_nextWay_39.eq_2] at h
    refine ai (r_iload_n (pc := 39) (k := 1) (by decide +kernel : decode k_P_Parting_nextWay.2.1 39 = .ok (.iload_n 2, 1)) rfl rfl) ?_
    refine ai (p_aload_n (pc := 40) (k := 0) (by decide +kernel : decode k_P_Parting_nextWay.2.1 40 = .ok (.aload_n 0, 1)) rfl rfl) ?_
    refine ai (r_getI (pc := 41) (by decide +kernel : decode k_P_Parting_nextWay.2.1 41 = .ok (.getfield 53, 3)) lg_7_53 (by decide) (PC_41 hL).1) ?_
    rcases ite_some h with ⟨c1, h⟩ | ⟨c1, h⟩
    · refine ai (r_icmp_ge_t (pc := 44) (tgt := 60) (by decide +kernel : decode k_P_Parting_nextWay.2.1 44 = .ok (.if_icmp .ge (16), 3)) (by decide) c1) ?_
      refine ai (r_iconst (pc := 60) (by decide +kernel : decode k_P_Parting_nextWay.2.1 60 = .ok (.iconst 1, 1)) ic_1) ?_
      cases h
      exact ⟨r_zret (by decide) rfl (by decide +kernel : decode k_P_Parting_nextWay.2.1 61 = .ok (.ireturn, 1)), hL⟩
    · refine ai (r_icmp_ge_f (pc := 44) 60 (by decide +kernel : decode k_P_Parting_nextWay.2.1 44 = .ok (.if_icmp .ge (16), 3)) (by decide) c1) ?_
      refine ai (p_aload_n (pc := 47) (k := 0) (by decide +kernel : decode k_P_Parting_nextWay.2.1 47 = .ok (.aload_n 0, 1)) rfl rfl) ?_
      refine ai (p_getr (pc := 48) (PR_902_41 hL) (by decide +kernel : decode k_P_Parting_nextWay.2.1 48 = .ok (.getfield 27, 3)) lg_7_27 (PC_41 hL).1) ?_
      refine ai (r_iload_n (pc := 51) (k := 1) (by decide +kernel : decode k_P_Parting_nextWay.2.1 51 = .ok (.iload_n 2, 1)) rfl rfl) ?_
      refine ai (r_iconst (pc := 52) (by decide +kernel : decode k_P_Parting_nextWay.2.1 52 = .ok (.iconst 0, 1)) ic_0) ?_
      obtain ⟨g2, h⟩ := gd_some h
      have c3 := (PC_47 hL).1
      have c4 := (PC_47 hL).2
      obtain ⟨m5, hm5, h⟩ := vb_some h
      have hL : PL m5 := by rw [hm5]; exact hL
      refine ai (p_iast (pc := 53) hm5 (by decide +kernel : decode k_P_Parting_nextWay.2.1 53 = .ok (.iastore, 1)) c3 c4 g2) ?_
      obtain ⟨v6, hv6, h⟩ := vb_some h
      refine ai (e_iinc (pc := 54) (k := 1) hv6 ic_1 (by decide +kernel : decode k_P_Parting_nextWay.2.1 54 = .ok (.iinc 2 (1), 3)) rfl (by decide) rfl (ls2 := [(2, .int v6), (0, .ref 41)]) (i := 2)) ?_
      refine ai (r_goto (pc := 57) (tgt := 39) (by decide +kernel : decode k_P_Parting_nextWay.2.1 57 = .ok (.goto (-18), 3)) (by decide)) ?_
      exact (ai (r_sub [1, 0] rfl) (ih hL h))
set_option maxRecDepth 100000 in
set_option maxHeartbeats 4000000 in
theorem P_Parting_nextWay_25_run {x1 : Int32} {m m' : Mem} {r : Int32} (hL : PL m) (h : P_Parting_nextWay_25 x1 m = some (r, m')) : Run k_P_Parting_nextWay 25 [(0, .ref 41), (1, .int x1)] [] m (some (.int r)) m' ∧ PL m' := by
  unfold P_Parting_nextWay_25 at h
  refine ai (p_aload_n (pc := 25) (k := 0) (by decide +kernel : decode k_P_Parting_nextWay.2.1 25 = .ok (.aload_n 0, 1)) rfl rfl) ?_
  refine ai (p_getr (pc := 26) (PR_902_41 hL) (by decide +kernel : decode k_P_Parting_nextWay.2.1 26 = .ok (.getfield 27, 3)) lg_7_27 (PC_41 hL).1) ?_
  refine ai (r_iload_n (pc := 29) (k := 1) (by decide +kernel : decode k_P_Parting_nextWay.2.1 29 = .ok (.iload_n 1, 1)) rfl rfl) ?_
  refine ai (r_dup2 (pc := 30) (by decide +kernel : decode k_P_Parting_nextWay.2.1 30 = .ok (.dup2, 1)) rfl rfl) ?_
  obtain ⟨g1, h⟩ := gd_some h
  refine ai (p_iald (pc := 31) (by decide +kernel : decode k_P_Parting_nextWay.2.1 31 = .ok (.iaload, 1)) (PC_47 hL).1 (PC_47 hL).2 g1) ?_
  refine ai (r_iconst (pc := 32) (by decide +kernel : decode k_P_Parting_nextWay.2.1 32 = .ok (.iconst 1, 1)) ic_1) ?_
  refine ai (r_iadd (pc := 33) (by decide +kernel : decode k_P_Parting_nextWay.2.1 33 = .ok (.iadd, 1))) ?_
  obtain ⟨g2, h⟩ := gd_some h
  have c3 := (PC_47 hL).1
  have c4 := (PC_47 hL).2
  obtain ⟨m5, hm5, h⟩ := vb_some h
  have hL : PL m5 := by rw [hm5]; exact hL
  refine ai (p_iast (pc := 34) hm5 (by decide +kernel : decode k_P_Parting_nextWay.2.1 34 = .ok (.iastore, 1)) c3 c4 g2) ?_
  refine ai (r_iload_n (pc := 35) (k := 1) (by decide +kernel : decode k_P_Parting_nextWay.2.1 35 = .ok (.iload_n 1, 1)) rfl rfl) ?_
  refine ai (r_iconst (pc := 36) (by decide +kernel : decode k_P_Parting_nextWay.2.1 36 = .ok (.iconst 1, 1)) ic_1) ?_
  refine ai (r_iadd (pc := 37) (by decide +kernel : decode k_P_Parting_nextWay.2.1 37 = .ok (.iadd, 1))) ?_
  obtain ⟨v6, hv6, h⟩ := vb_some h
  refine ai (e_istore_n (pc := 38) hv6 (by decide +kernel : decode k_P_Parting_nextWay.2.1 38 = .ok (.istore_n 2, 1)) rfl (by decide) rfl (ls2 := [(2, .int v6), (0, .ref 41), (1, .int x1)]) (i := 2)) ?_
  exact (ai (r_sub [1, 0] rfl) (P_Parting_nextWay_39_run hL h))
set_option maxRecDepth 100000 in
set_option maxHeartbeats 4000000 in
theorem P_Parting_nextWay_7_run {n : Nat} {x1 : Int32} {m m' : Mem} {r : Int32} (hL : PL m) (h : P_Parting_nextWay_7 n x1 m = some (r, m')) : Run k_P_Parting_nextWay 7 [(0, .ref 41), (1, .int x1)] [] m (some (.int r)) m' ∧ PL m' := by
  induction n generalizing x1 m r m' with
  | zero => exact absurd h (by simp [P_Parting_nextWay_7])
  | succ n ih =>
    rw [P_Parting_nextWay_7.eq_2] at h
    refine ai (r_iload_n (pc := 7) (k := 1) (by decide +kernel : decode k_P_Parting_nextWay.2.1 7 = .ok (.iload_n 1, 1)) rfl rfl) ?_
    rcases ite_some h with ⟨c1, h⟩ | ⟨c1, h⟩
    · refine ai (r_if_le_t (pc := 8) (tgt := 68) (by decide +kernel : decode k_P_Parting_nextWay.2.1 8 = .ok (.ifCond .le (60), 3)) (by decide) c1) ?_
      refine ai (r_iconst (pc := 68) (by decide +kernel : decode k_P_Parting_nextWay.2.1 68 = .ok (.iconst 0, 1)) ic_0) ?_
      cases h
      exact ⟨r_zret (by decide) rfl (by decide +kernel : decode k_P_Parting_nextWay.2.1 69 = .ok (.ireturn, 1)), hL⟩
    · refine ai (r_if_le_f (pc := 8) 68 (by decide +kernel : decode k_P_Parting_nextWay.2.1 8 = .ok (.ifCond .le (60), 3)) (by decide) c1) ?_
      refine ai (p_aload_n (pc := 11) (k := 0) (by decide +kernel : decode k_P_Parting_nextWay.2.1 11 = .ok (.aload_n 0, 1)) rfl rfl) ?_
      refine ai (p_getr (pc := 12) (PR_902_41 hL) (by decide +kernel : decode k_P_Parting_nextWay.2.1 12 = .ok (.getfield 27, 3)) lg_7_27 (PC_41 hL).1) ?_
      refine ai (r_iload_n (pc := 15) (k := 1) (by decide +kernel : decode k_P_Parting_nextWay.2.1 15 = .ok (.iload_n 1, 1)) rfl rfl) ?_
      obtain ⟨g2, h⟩ := gd_some h
      refine ai (p_iald (pc := 16) (by decide +kernel : decode k_P_Parting_nextWay.2.1 16 = .ok (.iaload, 1)) (PC_47 hL).1 (PC_47 hL).2 g2) ?_
      refine ai (p_aload_n (pc := 17) (k := 0) (by decide +kernel : decode k_P_Parting_nextWay.2.1 17 = .ok (.aload_n 0, 1)) rfl rfl) ?_
      refine ai (r_iload_n (pc := 18) (k := 1) (by decide +kernel : decode k_P_Parting_nextWay.2.1 18 = .ok (.iload_n 1, 1)) rfl rfl) ?_
      obtain ⟨r3, m4, hr3, h⟩ := bn_some h
      have q5 := P_Parting_groupsAmong_run hL hr3
      have c6 := (PC_41 hL).1
      have hL := q5.2
      refine ai (q_callV (pc := 19) (As := [.int x1]) (st := [.int (aI m 47 (ix x1))]) (st2 := [.int r3, .int (aI m 47 (ix x1))]) (b := 41) rfl rfl (by decide +kernel : decode k_P_Parting_nextWay.2.1 19 = .ok (.invokevirtual 67, 3)) lc_7_67 mo_P_Parting_groupsAmong ⟨Nat.le_of_ble_eq_true rfl, Nat.le_of_ble_eq_true rfl⟩ (Nat.le_of_ble_eq_true rfl) (Nat.le_of_ble_eq_true rfl) c6 q5.1) ?_
      rcases ite_some h with ⟨c7, h⟩ | ⟨c7, h⟩
      · refine ai (r_icmp_ge_t (pc := 22) (tgt := 62) (by decide +kernel : decode k_P_Parting_nextWay.2.1 22 = .ok (.if_icmp .ge (40), 3)) (by decide) c7) ?_
        obtain ⟨v8, hv8, h⟩ := vb_some h
        refine ai (e_iinc (pc := 62) (k := 1) hv8 ic_m1 (by decide +kernel : decode k_P_Parting_nextWay.2.1 62 = .ok (.iinc 1 (-1), 3)) rfl (by decide) rfl (ls2 := [(1, .int v8), (0, .ref 41)]) (i := 1)) ?_
        refine ai (r_goto (pc := 65) (tgt := 7) (by decide +kernel : decode k_P_Parting_nextWay.2.1 65 = .ok (.goto (-58), 3)) (by decide)) ?_
        exact (ai (r_sub [1, 0] rfl) (ih hL h))
      · refine ai (r_icmp_ge_f (pc := 22) 62 (by decide +kernel : decode k_P_Parting_nextWay.2.1 22 = .ok (.if_icmp .ge (40), 3)) (by decide) c7) ?_
        exact (P_Parting_nextWay_25_run hL h)
set_option maxRecDepth 100000 in
set_option maxHeartbeats 4000000 in
theorem P_Parting_nextWay_run {m m' : Mem} {r : Int32} (hL : PL m) (h : P_Parting_nextWay m = some (r, m')) : Run k_P_Parting_nextWay 0 [(0, .ref 41)] [] m (some (.int r)) m' ∧ PL m' := by
  unfold P_Parting_nextWay at h
  refine ai (p_aload_n (pc := 0) (k := 0) (by decide +kernel : decode k_P_Parting_nextWay.2.1 0 = .ok (.aload_n 0, 1)) rfl rfl) ?_
  refine ai (r_getI (pc := 1) (by decide +kernel : decode k_P_Parting_nextWay.2.1 1 = .ok (.getfield 53, 3)) lg_7_53 (by decide) (PC_41 hL).1) ?_
  refine ai (r_iconst (pc := 4) (by decide +kernel : decode k_P_Parting_nextWay.2.1 4 = .ok (.iconst 1, 1)) ic_1) ?_
  refine ai (r_isub (pc := 5) (by decide +kernel : decode k_P_Parting_nextWay.2.1 5 = .ok (.isub, 1))) ?_
  obtain ⟨v1, hv1, h⟩ := vb_some h
  refine ai (e_istore_n (pc := 6) hv1 (by decide +kernel : decode k_P_Parting_nextWay.2.1 6 = .ok (.istore_n 1, 1)) rfl (by decide) rfl (ls2 := [(1, .int v1), (0, .ref 41)]) (i := 1)) ?_
  exact (ai (r_sub [1, 0] rfl) (P_Parting_nextWay_7_run hL h))
set_option maxRecDepth 100000 in
set_option maxHeartbeats 4000000 in
theorem P_Parting_remember_10_run {n : Nat} {x1 : Int32} {m m' : Mem} {r : Unit} (hL : PL m) (h : P_Parting_remember_10 n x1 m = some (r, m')) : Run k_P_Parting_remember 10 [(0, .ref 41), (1, .int x1)] [] m none m' ∧ PL m' := by
  induction n generalizing x1 m r m' with
  | zero => exact absurd h (by simp [P_Parting_remember_10])
  | succ n ih =>
    rw [P_Parting_remember_10.eq_2] at h
    refine ai (r_iload_n (pc := 10) (k := 1) (by decide +kernel : decode k_P_Parting_remember.2.1 10 = .ok (.iload_n 1, 1)) rfl rfl) ?_
    refine ai (p_aload_n (pc := 11) (k := 0) (by decide +kernel : decode k_P_Parting_remember.2.1 11 = .ok (.aload_n 0, 1)) rfl rfl) ?_
    refine ai (r_getI (pc := 12) (by decide +kernel : decode k_P_Parting_remember.2.1 12 = .ok (.getfield 53, 3)) lg_7_53 (by decide) (PC_41 hL).1) ?_
    rcases ite_some h with ⟨c1, h⟩ | ⟨c1, h⟩
    · refine ai (r_icmp_ge_t (pc := 15) (tgt := 63) (by decide +kernel : decode k_P_Parting_remember.2.1 15 = .ok (.if_icmp .ge (48), 3)) (by decide) c1) ?_
      cases h
      exact ⟨r_vret rfl (by decide +kernel : decode k_P_Parting_remember.2.1 63 = .ok (.return_, 1)), hL⟩
    · refine ai (r_icmp_ge_f (pc := 15) 63 (by decide +kernel : decode k_P_Parting_remember.2.1 15 = .ok (.if_icmp .ge (48), 3)) (by decide) c1) ?_
      refine ai (p_aload_n (pc := 18) (k := 0) (by decide +kernel : decode k_P_Parting_remember.2.1 18 = .ok (.aload_n 0, 1)) rfl rfl) ?_
      refine ai (p_getr (pc := 19) (PR_898_41 hL) (by decide +kernel : decode k_P_Parting_remember.2.1 19 = .ok (.getfield 18, 3)) lg_7_18 (PC_41 hL).1) ?_
      refine ai (p_aload_n (pc := 22) (k := 0) (by decide +kernel : decode k_P_Parting_remember.2.1 22 = .ok (.aload_n 0, 1)) rfl rfl) ?_
      refine ai (p_getr (pc := 23) (PR_900_41 hL) (by decide +kernel : decode k_P_Parting_remember.2.1 23 = .ok (.getfield 24, 3)) lg_7_24 (PC_41 hL).1) ?_
      refine ai (r_iload_n (pc := 26) (k := 1) (by decide +kernel : decode k_P_Parting_remember.2.1 26 = .ok (.iload_n 1, 1)) rfl rfl) ?_
      obtain ⟨g2, h⟩ := gd_some h
      refine ai (p_iald (pc := 27) (by decide +kernel : decode k_P_Parting_remember.2.1 27 = .ok (.iaload, 1)) (PC_46 hL).1 (PC_46 hL).2 g2) ?_
      refine ai (p_aload_n (pc := 28) (k := 0) (by decide +kernel : decode k_P_Parting_remember.2.1 28 = .ok (.aload_n 0, 1)) rfl rfl) ?_
      refine ai (p_getr (pc := 29) (PR_904_41 hL) (by decide +kernel : decode k_P_Parting_remember.2.1 29 = .ok (.getfield 33, 3)) lg_7_33 (PC_41 hL).1) ?_
      refine ai (r_iload_n (pc := 32) (k := 1) (by decide +kernel : decode k_P_Parting_remember.2.1 32 = .ok (.iload_n 1, 1)) rfl rfl) ?_
      obtain ⟨g3, h⟩ := gd_some h
      refine ai (p_iald (pc := 33) (by decide +kernel : decode k_P_Parting_remember.2.1 33 = .ok (.iaload, 1)) (PC_49 hL).1 (PC_49 hL).2 g3) ?_
      obtain ⟨g4, h⟩ := gd_some h
      have c5 := (PC_44 hL).1
      have c6 := (PC_44 hL).2
      obtain ⟨m7, hm7, h⟩ := vb_some h
      have hL : PL m7 := by rw [hm7]; exact hL
      refine ai (p_iast (pc := 34) hm7 (by decide +kernel : decode k_P_Parting_remember.2.1 34 = .ok (.iastore, 1)) c5 c6 g4) ?_
      refine ai (p_aload_n (pc := 35) (k := 0) (by decide +kernel : decode k_P_Parting_remember.2.1 35 = .ok (.aload_n 0, 1)) rfl rfl) ?_
      refine ai (p_getr (pc := 36) (PR_899_41 hL) (by decide +kernel : decode k_P_Parting_remember.2.1 36 = .ok (.getfield 21, 3)) lg_7_21 (PC_41 hL).1) ?_
      refine ai (p_aload_n (pc := 39) (k := 0) (by decide +kernel : decode k_P_Parting_remember.2.1 39 = .ok (.aload_n 0, 1)) rfl rfl) ?_
      refine ai (p_getr (pc := 40) (PR_900_41 hL) (by decide +kernel : decode k_P_Parting_remember.2.1 40 = .ok (.getfield 24, 3)) lg_7_24 (PC_41 hL).1) ?_
      refine ai (r_iload_n (pc := 43) (k := 1) (by decide +kernel : decode k_P_Parting_remember.2.1 43 = .ok (.iload_n 1, 1)) rfl rfl) ?_
      obtain ⟨g8, h⟩ := gd_some h
      refine ai (p_iald (pc := 44) (by decide +kernel : decode k_P_Parting_remember.2.1 44 = .ok (.iaload, 1)) (PC_46 hL).1 (PC_46 hL).2 g8) ?_
      refine ai (p_aload_n (pc := 45) (k := 0) (by decide +kernel : decode k_P_Parting_remember.2.1 45 = .ok (.aload_n 0, 1)) rfl rfl) ?_
      refine ai (p_getr (pc := 46) (PR_905_41 hL) (by decide +kernel : decode k_P_Parting_remember.2.1 46 = .ok (.getfield 36, 3)) lg_7_36 (PC_41 hL).1) ?_
      refine ai (p_aload_n (pc := 49) (k := 0) (by decide +kernel : decode k_P_Parting_remember.2.1 49 = .ok (.aload_n 0, 1)) rfl rfl) ?_
      refine ai (p_getr (pc := 50) (PR_904_41 hL) (by decide +kernel : decode k_P_Parting_remember.2.1 50 = .ok (.getfield 33, 3)) lg_7_33 (PC_41 hL).1) ?_
      refine ai (r_iload_n (pc := 53) (k := 1) (by decide +kernel : decode k_P_Parting_remember.2.1 53 = .ok (.iload_n 1, 1)) rfl rfl) ?_
      obtain ⟨g9, h⟩ := gd_some h
      refine ai (p_iald (pc := 54) (by decide +kernel : decode k_P_Parting_remember.2.1 54 = .ok (.iaload, 1)) (PC_49 hL).1 (PC_49 hL).2 g9) ?_
      obtain ⟨g10, h⟩ := gd_some h
      refine ai (p_iald (pc := 55) (by decide +kernel : decode k_P_Parting_remember.2.1 55 = .ok (.iaload, 1)) (PC_50 hL).1 (PC_50 hL).2 g10) ?_
      obtain ⟨g11, h⟩ := gd_some h
      have c12 := (PC_45 hL).1
      have c13 := (PC_45 hL).2
      obtain ⟨m14, hm14, h⟩ := vb_some h
      have hL : PL m14 := by rw [hm14]; exact hL
      refine ai (p_iast (pc := 56) hm14 (by decide +kernel : decode k_P_Parting_remember.2.1 56 = .ok (.iastore, 1)) c12 c13 g11) ?_
      obtain ⟨v15, hv15, h⟩ := vb_some h
      refine ai (e_iinc (pc := 57) (k := 1) hv15 ic_1 (by decide +kernel : decode k_P_Parting_remember.2.1 57 = .ok (.iinc 1 (1), 3)) rfl (by decide) rfl (ls2 := [(1, .int v15), (0, .ref 41)]) (i := 1)) ?_
      refine ai (r_goto (pc := 60) (tgt := 10) (by decide +kernel : decode k_P_Parting_remember.2.1 60 = .ok (.goto (-50), 3)) (by decide)) ?_
      exact (ai (r_sub [1, 0] rfl) (ih hL h))
set_option maxRecDepth 100000 in
set_option maxHeartbeats 4000000 in
theorem P_Parting_remember_run {m m' : Mem} {r : Unit} (hL : PL m) (h : P_Parting_remember m = some (r, m')) : Run k_P_Parting_remember 0 [(0, .ref 41)] [] m none m' ∧ PL m' := by
  unfold P_Parting_remember at h
  refine ai (p_aload_n (pc := 0) (k := 0) (by decide +kernel : decode k_P_Parting_remember.2.1 0 = .ok (.aload_n 0, 1)) rfl rfl) ?_
  refine ai (p_getr (pc := 1) (PR_898_41 hL) (by decide +kernel : decode k_P_Parting_remember.2.1 1 = .ok (.getfield 18, 3)) lg_7_18 (PC_41 hL).1) ?_
  refine ai (r_iconst (pc := 4) (by decide +kernel : decode k_P_Parting_remember.2.1 4 = .ok (.iconst (-1), 1)) ic_m1) ?_
  obtain ⟨r1, m2, hr1, h⟩ := bn_some h
  have q3 := J_fill_run hr1
  have hL := PL.kp hL q3.2
  refine ai (q_callS (pc := 5) (As := [.ref 44, .int (-1)]) (st := []) (st2 := []) rfl rfl (by decide +kernel : decode k_P_Parting_remember.2.1 5 = .ok (.invokestatic 39, 3)) lc_7_39 mo_J_fill ⟨Nat.le_of_ble_eq_true rfl, Nat.le_of_ble_eq_true rfl⟩ (Nat.le_of_ble_eq_true rfl) (Nat.le_of_ble_eq_true rfl) q3.1) ?_
  refine ai (r_iconst (pc := 8) (by decide +kernel : decode k_P_Parting_remember.2.1 8 = .ok (.iconst 0, 1)) ic_0) ?_
  refine ai (e_istore_n (pc := 9) rfl (by decide +kernel : decode k_P_Parting_remember.2.1 9 = .ok (.istore_n 1, 1)) rfl (by decide) rfl (ls2 := [(1, .int 0), (0, .ref 41)]) (i := 1)) ?_
  exact (ai (r_sub [1, 0] rfl) (P_Parting_remember_10_run hL h))
set_option maxRecDepth 100000 in
set_option maxHeartbeats 4000000 in
theorem P_Parting_divide_58_run {m m' : Mem} {r : Int32} (hL : PL m) (h : P_Parting_divide_58 m = some (r, m')) : Run k_P_Parting_divide 58 [(0, .ref 41)] [] m (some (.int r)) m' ∧ PL m' := by
  unfold P_Parting_divide_58 at h
  refine ai (p_aload_n (pc := 58) (k := 0) (by decide +kernel : decode k_P_Parting_divide.2.1 58 = .ok (.aload_n 0, 1)) rfl rfl) ?_
  refine ai (r_getI (pc := 59) (by decide +kernel : decode k_P_Parting_divide.2.1 59 = .ok (.getfield 49, 3)) lg_7_49 (by decide) (PC_41 hL).1) ?_
  refine ai (r_iconst (pc := 62) (by decide +kernel : decode k_P_Parting_divide.2.1 62 = .ok (.iconst (-1), 1)) ic_m1) ?_
  rcases ite_some h with ⟨c1, h⟩ | ⟨c1, h⟩
  · refine ai (r_icmp_ne_f (pc := 63) 69 (by decide +kernel : decode k_P_Parting_divide.2.1 63 = .ok (.if_icmp .ne (6), 3)) (by decide) c1) ?_
    refine ai (r_bipush (pc := 66) (by decide +kernel : decode k_P_Parting_divide.2.1 66 = .ok (.bipush (-2), 2)) (by decide : _ = (-2 : Int32))) ?_
    cases h
    exact ⟨r_iret rfl (by decide +kernel : decode k_P_Parting_divide.2.1 68 = .ok (.ireturn, 1)), hL⟩
  · refine ai (r_icmp_ne_t (pc := 63) (tgt := 69) (by decide +kernel : decode k_P_Parting_divide.2.1 63 = .ok (.if_icmp .ne (6), 3)) (by decide) c1) ?_
    refine ai (p_aload_n (pc := 69) (k := 0) (by decide +kernel : decode k_P_Parting_divide.2.1 69 = .ok (.aload_n 0, 1)) rfl rfl) ?_
    obtain ⟨r2, m3, hr2, h⟩ := bn_some h
    have q4 := P_Parting_remember_run hL hr2
    have c5 := (PC_41 hL).1
    have hL := q4.2
    refine ai (q_callV (pc := 70) (As := []) (st := []) (st2 := []) (b := 41) rfl rfl (by decide +kernel : decode k_P_Parting_divide.2.1 70 = .ok (.invokevirtual 64, 3)) lc_7_64 mo_P_Parting_remember ⟨Nat.le_of_ble_eq_true rfl, Nat.le_of_ble_eq_true rfl⟩ (Nat.le_of_ble_eq_true rfl) (Nat.le_of_ble_eq_true rfl) c5 q4.1) ?_
    refine ai (p_aload_n (pc := 73) (k := 0) (by decide +kernel : decode k_P_Parting_divide.2.1 73 = .ok (.aload_n 0, 1)) rfl rfl) ?_
    refine ai (r_getI (pc := 74) (by decide +kernel : decode k_P_Parting_divide.2.1 74 = .ok (.getfield 49, 3)) lg_7_49 (by decide) (PC_41 hL).1) ?_
    cases h
    exact ⟨r_iret rfl (by decide +kernel : decode k_P_Parting_divide.2.1 77 = .ok (.ireturn, 1)), hL⟩
set_option maxRecDepth 100000 in
set_option maxHeartbeats 4000000 in
theorem P_Parting_divide_27_run {n : Nat} {x2 : Int32} {x3 : Int32} {x4 : Int32} {x5 : Int32} {m m' : Mem} {r : Int32} (hL : PL m) (h : P_Parting_divide_27 n x2 x3 x4 x5 m = some (r, m')) : Run k_P_Parting_divide 27 [(0, .ref 41), (2, .int x2), (3, .int x3), (4, .int x4), (5, .int x5)] [] m (some (.int r)) m' ∧ PL m' := by
  induction n generalizing x2 x3 x4 x5 m r m' with
  | zero => exact absurd h (by simp [P_Parting_divide_27])
  | succ n ih =>
    rw [P_Parting_divide_27.eq_2] at h
    refine ai (r_iload (pc := 27) (k := 4) (by decide +kernel : decode k_P_Parting_divide.2.1 27 = .ok (.iload 5, 2)) rfl) ?_
    refine ai (r_sipush (pc := 29) (by decide +kernel : decode k_P_Parting_divide.2.1 29 = .ok (.sipush (877), 3)) (by decide : _ = (877 : Int32))) ?_
    rcases ite_some h with ⟨c1, h⟩ | ⟨c1, h⟩
    · refine ai (r_icmp_ge_t (pc := 32) (tgt := 58) (by decide +kernel : decode k_P_Parting_divide.2.1 32 = .ok (.if_icmp .ge (26), 3)) (by decide) c1) ?_
      exact (ai (r_sub [0] rfl) (P_Parting_divide_58_run hL h))
    · refine ai (r_icmp_ge_f (pc := 32) 58 (by decide +kernel : decode k_P_Parting_divide.2.1 32 = .ok (.if_icmp .ge (26), 3)) (by decide) c1) ?_
      refine ai (r_iload (pc := 35) (k := 3) (by decide +kernel : decode k_P_Parting_divide.2.1 35 = .ok (.iload 4, 2)) rfl) ?_
      rcases ite_some h with ⟨c2, h⟩ | ⟨c2, h⟩
      · refine ai (r_if_eq_t (pc := 37) (tgt := 58) (by decide +kernel : decode k_P_Parting_divide.2.1 37 = .ok (.ifCond .eq (21), 3)) (by decide) c2) ?_
        exact (ai (r_sub [0] rfl) (P_Parting_divide_58_run hL h))
      · refine ai (r_if_eq_f (pc := 37) 58 (by decide +kernel : decode k_P_Parting_divide.2.1 37 = .ok (.ifCond .eq (21), 3)) (by decide) c2) ?_
        refine ai (p_aload_n (pc := 40) (k := 0) (by decide +kernel : decode k_P_Parting_divide.2.1 40 = .ok (.aload_n 0, 1)) rfl rfl) ?_
        refine ai (r_iload_n (pc := 41) (k := 1) (by decide +kernel : decode k_P_Parting_divide.2.1 41 = .ok (.iload_n 2, 1)) rfl rfl) ?_
        refine ai (r_iload_n (pc := 42) (k := 2) (by decide +kernel : decode k_P_Parting_divide.2.1 42 = .ok (.iload_n 3, 1)) rfl rfl) ?_
        obtain ⟨r3, m4, hr3, h⟩ := bn_some h
        have q5 := P_Parting_weigh_run hL hr3
        have c6 := (PC_41 hL).1
        have hL := q5.2
        refine ai (q_callV (pc := 43) (As := [.int x2, .int x3]) (st := []) (st2 := []) (b := 41) rfl rfl (by decide +kernel : decode k_P_Parting_divide.2.1 43 = .ok (.invokevirtual 56, 3)) lc_7_56 mo_P_Parting_weigh ⟨Nat.le_of_ble_eq_true rfl, Nat.le_of_ble_eq_true rfl⟩ (Nat.le_of_ble_eq_true rfl) (Nat.le_of_ble_eq_true rfl) c6 q5.1) ?_
        refine ai (p_aload_n (pc := 46) (k := 0) (by decide +kernel : decode k_P_Parting_divide.2.1 46 = .ok (.aload_n 0, 1)) rfl rfl) ?_
        obtain ⟨r7, m8, hr7, h⟩ := bn_some h
        have q9 := P_Parting_nextWay_run hL hr7
        have c10 := (PC_41 hL).1
        have hL := q9.2
        refine ai (q_callV (pc := 47) (As := []) (st := []) (st2 := [.int r7]) (b := 41) rfl rfl (by decide +kernel : decode k_P_Parting_divide.2.1 47 = .ok (.invokevirtual 60, 3)) lc_7_60 mo_P_Parting_nextWay ⟨Nat.le_of_ble_eq_true rfl, Nat.le_of_ble_eq_true rfl⟩ (Nat.le_of_ble_eq_true rfl) (Nat.le_of_ble_eq_true rfl) c10 q9.1) ?_
        refine ai (e_istore (pc := 50) rfl (by decide +kernel : decode k_P_Parting_divide.2.1 50 = .ok (.istore 4, 2)) (by decide) rfl (ls2 := [(4, .int r7), (0, .ref 41), (2, .int x2), (3, .int x3), (5, .int x5)]) (i := 4)) ?_
        obtain ⟨v11, hv11, h⟩ := vb_some h
        refine ai (e_iinc (pc := 52) (k := 4) hv11 ic_1 (by decide +kernel : decode k_P_Parting_divide.2.1 52 = .ok (.iinc 5 (1), 3)) rfl (by decide) rfl (ls2 := [(5, .int v11), (4, .int r7), (0, .ref 41), (2, .int x2), (3, .int x3)]) (i := 5)) ?_
        refine ai (r_goto (pc := 55) (tgt := 27) (by decide +kernel : decode k_P_Parting_divide.2.1 55 = .ok (.goto (-28), 3)) (by decide)) ?_
        exact (ai (r_sub [2, 3, 4, 1, 0] rfl) (ih hL h))
set_option maxRecDepth 100000 in
set_option maxHeartbeats 4000000 in
theorem P_Parting_divide_22_run {x2 : Int32} {x3 : Int32} {s0 : Int32} {m m' : Mem} {r : Int32} (hL : PL m) (h : P_Parting_divide_22 x2 x3 s0 m = some (r, m')) : Run k_P_Parting_divide 22 [(0, .ref 41), (2, .int x2), (3, .int x3)] [.int s0] m (some (.int r)) m' ∧ PL m' := by
  unfold P_Parting_divide_22 at h
  refine ai (e_istore (pc := 22) rfl (by decide +kernel : decode k_P_Parting_divide.2.1 22 = .ok (.istore 4, 2)) (by decide) rfl (ls2 := [(4, .int s0), (0, .ref 41), (2, .int x2), (3, .int x3)]) (i := 4)) ?_
  refine ai (r_iconst (pc := 24) (by decide +kernel : decode k_P_Parting_divide.2.1 24 = .ok (.iconst 0, 1)) ic_0) ?_
  refine ai (e_istore (pc := 25) rfl (by decide +kernel : decode k_P_Parting_divide.2.1 25 = .ok (.istore 5, 2)) (by decide) rfl (ls2 := [(5, .int 0), (4, .int s0), (0, .ref 41), (2, .int x2), (3, .int x3)]) (i := 5)) ?_
  exact (ai (r_sub [2, 3, 4, 1, 0] rfl) (P_Parting_divide_27_run hL h))
set_option maxRecDepth 100000 in
set_option maxHeartbeats 4000000 in
theorem P_Parting_divide_run {x1 : Int32} {x2 : Int32} {x3 : Int32} {m m' : Mem} {r : Int32} (hL : PL m) (h : P_Parting_divide x1 x2 x3 m = some (r, m')) : Run k_P_Parting_divide 0 [(0, .ref 41), (1, .int x1), (2, .int x2), (3, .int x3)] [] m (some (.int r)) m' ∧ PL m' := by
  unfold P_Parting_divide at h
  refine ai (p_aload_n (pc := 0) (k := 0) (by decide +kernel : decode k_P_Parting_divide.2.1 0 = .ok (.aload_n 0, 1)) rfl rfl) ?_
  refine ai (r_iload_n (pc := 1) (k := 1) (by decide +kernel : decode k_P_Parting_divide.2.1 1 = .ok (.iload_n 1, 1)) rfl rfl) ?_
  obtain ⟨r1, m2, hr1, h⟩ := bn_some h
  have q3 := P_Parting_gather_run hL hr1
  have c4 := (PC_41 hL).1
  have hL := q3.2
  refine ai (q_callV (pc := 2) (As := [.int x1]) (st := []) (st2 := []) (b := 41) rfl rfl (by decide +kernel : decode k_P_Parting_divide.2.1 2 = .ok (.invokevirtual 45, 3)) lc_7_45 mo_P_Parting_gather ⟨Nat.le_of_ble_eq_true rfl, Nat.le_of_ble_eq_true rfl⟩ (Nat.le_of_ble_eq_true rfl) (Nat.le_of_ble_eq_true rfl) c4 q3.1) ?_
  refine ai (p_aload_n (pc := 5) (k := 0) (by decide +kernel : decode k_P_Parting_divide.2.1 5 = .ok (.aload_n 0, 1)) rfl rfl) ?_
  refine ai (r_iconst (pc := 6) (by decide +kernel : decode k_P_Parting_divide.2.1 6 = .ok (.iconst (-1), 1)) ic_m1) ?_
  have c5 := (PC_41 hL).1
  obtain ⟨m6, hm6, h⟩ := vb_some h
  have hL : PL m6 := by rw [hm6]; exact hL
  refine ai (p_putI (pc := 7) hm6 (by decide +kernel : decode k_P_Parting_divide.2.1 7 = .ok (.putfield 49, 3)) lp_7_49 c5) ?_
  refine ai (p_aload_n (pc := 10) (k := 0) (by decide +kernel : decode k_P_Parting_divide.2.1 10 = .ok (.aload_n 0, 1)) rfl rfl) ?_
  refine ai (r_getI (pc := 11) (by decide +kernel : decode k_P_Parting_divide.2.1 11 = .ok (.getfield 53, 3)) lg_7_53 (by decide) (PC_41 hL).1) ?_
  rcases ite_some h with ⟨c7, h⟩ | ⟨c7, h⟩
  · refine ai (r_if_le_t (pc := 14) (tgt := 21) (by decide +kernel : decode k_P_Parting_divide.2.1 14 = .ok (.ifCond .le (7), 3)) (by decide) c7) ?_
    refine ai (r_iconst (pc := 21) (by decide +kernel : decode k_P_Parting_divide.2.1 21 = .ok (.iconst 0, 1)) ic_0) ?_
    exact (ai (r_sub [0, 2, 3] rfl) (P_Parting_divide_22_run hL h))
  · refine ai (r_if_le_f (pc := 14) 21 (by decide +kernel : decode k_P_Parting_divide.2.1 14 = .ok (.ifCond .le (7), 3)) (by decide) c7) ?_
    refine ai (r_iconst (pc := 17) (by decide +kernel : decode k_P_Parting_divide.2.1 17 = .ok (.iconst 1, 1)) ic_1) ?_
    refine ai (r_goto (pc := 18) (tgt := 22) (by decide +kernel : decode k_P_Parting_divide.2.1 18 = .ok (.goto (4), 3)) (by decide)) ?_
    exact (ai (r_sub [0, 2, 3] rfl) (P_Parting_divide_22_run hL h))
set_option maxRecDepth 100000 in
set_option maxHeartbeats 4000000 in
theorem P_parting_run {x1 : Int32} {x2 : Int32} {x3 : Int32} {m m' : Mem} {r : Int32} (hL : PL m) (h : P_parting x1 x2 x3 m = some (r, m')) : Run k_P_parting 0 [(0, .ref 0), (1, .int x1), (2, .int x2), (3, .int x3)] [] m (some (.int r)) m' ∧ PL m' := by
  unfold P_parting at h
  refine ai (r_iload_n (pc := 0) (k := 1) (by decide +kernel : decode k_P_parting.2.1 0 = .ok (.iload_n 1, 1)) rfl rfl) ?_
  refine ai (r_iconst (pc := 1) (by decide +kernel : decode k_P_parting.2.1 1 = .ok (.iconst 1, 1)) ic_1) ?_
  refine ai (r_ldc_w (pc := 2) (by decide +kernel : decode k_P_parting.2.1 2 = .ok (.ldc_w 346, 3)) lk_11_346) ?_
  obtain ⟨r1, hr1, h⟩ := bp_some h
  refine ai (q_callS (pc := 5) (As := [.int x1, .int 1, .int 65535]) (st := []) (st2 := [.int r1]) rfl rfl (by decide +kernel : decode k_P_parting.2.1 5 = .ok (.invokestatic 117, 3)) lc_11_117 mo_P_within ⟨Nat.le_of_ble_eq_true rfl, Nat.le_of_ble_eq_true rfl⟩ (Nat.le_of_ble_eq_true rfl) (Nat.le_of_ble_eq_true rfl) (P_within_run hr1)) ?_
  rcases ite_some h with ⟨c2, h⟩ | ⟨c2, h⟩
  · refine ai (r_if_eq_t (pc := 8) (tgt := 20) (by decide +kernel : decode k_P_parting.2.1 8 = .ok (.ifCond .eq (12), 3)) (by decide) c2) ?_
    refine ai (r_iconst (pc := 20) (by decide +kernel : decode k_P_parting.2.1 20 = .ok (.iconst (-1), 1)) ic_m1) ?_
    cases h
    exact ⟨r_iret rfl (by decide +kernel : decode k_P_parting.2.1 21 = .ok (.ireturn, 1)), hL⟩
  · refine ai (r_if_eq_f (pc := 8) 20 (by decide +kernel : decode k_P_parting.2.1 8 = .ok (.ifCond .eq (12), 3)) (by decide) c2) ?_
    refine ai (r_iload_n (pc := 11) (k := 1) (by decide +kernel : decode k_P_parting.2.1 11 = .ok (.iload_n 1, 1)) rfl rfl) ?_
    obtain ⟨r3, hr3, h⟩ := bp_some h
    refine ai (q_callS (pc := 12) (As := [.int x1]) (st := []) (st2 := [.int r3]) rfl rfl (by decide +kernel : decode k_P_parting.2.1 12 = .ok (.invokestatic 347, 3)) lc_11_347 mo_J_bitCount ⟨Nat.le_of_ble_eq_true rfl, Nat.le_of_ble_eq_true rfl⟩ (Nat.le_of_ble_eq_true rfl) (Nat.le_of_ble_eq_true rfl) (J_bitCount_run hr3)) ?_
    refine ai (r_bipush (pc := 15) (by decide +kernel : decode k_P_parting.2.1 15 = .ok (.bipush (7), 2)) (by decide : _ = (7 : Int32))) ?_
    rcases ite_some h with ⟨c4, h⟩ | ⟨c4, h⟩
    · refine ai (r_icmp_le_t (pc := 17) (tgt := 22) (by decide +kernel : decode k_P_parting.2.1 17 = .ok (.if_icmp .le (5), 3)) (by decide) c4) ?_
      refine ai (r_iload_n (pc := 22) (k := 2) (by decide +kernel : decode k_P_parting.2.1 22 = .ok (.iload_n 2, 1)) rfl rfl) ?_
      refine ai (r_iconst (pc := 23) (by decide +kernel : decode k_P_parting.2.1 23 = .ok (.iconst 1, 1)) ic_1) ?_
      refine ai (r_bipush (pc := 24) (by decide +kernel : decode k_P_parting.2.1 24 = .ok (.bipush (7), 2)) (by decide : _ = (7 : Int32))) ?_
      obtain ⟨r5, hr5, h⟩ := bp_some h
      refine ai (q_callS (pc := 26) (As := [.int x2, .int 1, .int 7]) (st := []) (st2 := [.int r5]) rfl rfl (by decide +kernel : decode k_P_parting.2.1 26 = .ok (.invokestatic 117, 3)) lc_11_117 mo_P_within ⟨Nat.le_of_ble_eq_true rfl, Nat.le_of_ble_eq_true rfl⟩ (Nat.le_of_ble_eq_true rfl) (Nat.le_of_ble_eq_true rfl) (P_within_run hr5)) ?_
      rcases ite_some h with ⟨c6, h⟩ | ⟨c6, h⟩
      · refine ai (r_if_eq_t (pc := 29) (tgt := 43) (by decide +kernel : decode k_P_parting.2.1 29 = .ok (.ifCond .eq (14), 3)) (by decide) c6) ?_
        refine ai (r_iconst (pc := 43) (by decide +kernel : decode k_P_parting.2.1 43 = .ok (.iconst (-1), 1)) ic_m1) ?_
        cases h
        exact ⟨r_iret rfl (by decide +kernel : decode k_P_parting.2.1 44 = .ok (.ireturn, 1)), hL⟩
      · refine ai (r_if_eq_f (pc := 29) 43 (by decide +kernel : decode k_P_parting.2.1 29 = .ok (.ifCond .eq (14), 3)) (by decide) c6) ?_
        refine ai (r_iload_n (pc := 32) (k := 3) (by decide +kernel : decode k_P_parting.2.1 32 = .ok (.iload_n 3, 1)) rfl rfl) ?_
        refine ai (r_iconst (pc := 33) (by decide +kernel : decode k_P_parting.2.1 33 = .ok (.iconst 0, 1)) ic_0) ?_
        refine ai (r_sipush (pc := 34) (by decide +kernel : decode k_P_parting.2.1 34 = .ok (.sipush (999), 3)) (by decide : _ = (999 : Int32))) ?_
        obtain ⟨r7, hr7, h⟩ := bp_some h
        refine ai (q_callS (pc := 37) (As := [.int x3, .int 0, .int 999]) (st := []) (st2 := [.int r7]) rfl rfl (by decide +kernel : decode k_P_parting.2.1 37 = .ok (.invokestatic 117, 3)) lc_11_117 mo_P_within ⟨Nat.le_of_ble_eq_true rfl, Nat.le_of_ble_eq_true rfl⟩ (Nat.le_of_ble_eq_true rfl) (Nat.le_of_ble_eq_true rfl) (P_within_run hr7)) ?_
        rcases ite_some h with ⟨c8, h⟩ | ⟨c8, h⟩
        · refine ai (r_if_ne_f (pc := 40) 45 (by decide +kernel : decode k_P_parting.2.1 40 = .ok (.ifCond .ne (5), 3)) (by decide) c8) ?_
          refine ai (r_iconst (pc := 43) (by decide +kernel : decode k_P_parting.2.1 43 = .ok (.iconst (-1), 1)) ic_m1) ?_
          cases h
          exact ⟨r_iret rfl (by decide +kernel : decode k_P_parting.2.1 44 = .ok (.ireturn, 1)), hL⟩
        · refine ai (r_if_ne_t (pc := 40) (tgt := 45) (by decide +kernel : decode k_P_parting.2.1 40 = .ok (.ifCond .ne (5), 3)) (by decide) c8) ?_
          refine ai (p_aload_n (pc := 45) (k := 0) (by decide +kernel : decode k_P_parting.2.1 45 = .ok (.aload_n 0, 1)) rfl rfl) ?_
          refine ai (p_getr (pc := 46) (PR_1414_0 hL) (by decide +kernel : decode k_P_parting.2.1 46 = .ok (.getfield 67, 3)) lg_11_67 (PC_0 hL).1) ?_
          refine ai (r_iload_n (pc := 49) (k := 1) (by decide +kernel : decode k_P_parting.2.1 49 = .ok (.iload_n 1, 1)) rfl rfl) ?_
          refine ai (r_iload_n (pc := 50) (k := 2) (by decide +kernel : decode k_P_parting.2.1 50 = .ok (.iload_n 2, 1)) rfl rfl) ?_
          refine ai (r_iload_n (pc := 51) (k := 3) (by decide +kernel : decode k_P_parting.2.1 51 = .ok (.iload_n 3, 1)) rfl rfl) ?_
          obtain ⟨r9, m10, hr9, h⟩ := bn_some h
          have q11 := P_Parting_divide_run hL hr9
          have c12 := (PC_41 hL).1
          have hL := q11.2
          refine ai (q_callV (pc := 52) (As := [.int x1, .int x2, .int x3]) (st := []) (st2 := [.int r9]) (b := 41) rfl rfl (by decide +kernel : decode k_P_parting.2.1 52 = .ok (.invokevirtual 352, 3)) lc_11_352 mo_P_Parting_divide ⟨Nat.le_of_ble_eq_true rfl, Nat.le_of_ble_eq_true rfl⟩ (Nat.le_of_ble_eq_true rfl) (Nat.le_of_ble_eq_true rfl) c12 q11.1) ?_
          cases h
          exact ⟨r_iret rfl (by decide +kernel : decode k_P_parting.2.1 55 = .ok (.ireturn, 1)), hL⟩
    · refine ai (r_icmp_le_f (pc := 17) 22 (by decide +kernel : decode k_P_parting.2.1 17 = .ok (.if_icmp .le (5), 3)) (by decide) c4) ?_
      refine ai (r_iconst (pc := 20) (by decide +kernel : decode k_P_parting.2.1 20 = .ok (.iconst (-1), 1)) ic_m1) ?_
      cases h
      exact ⟨r_iret rfl (by decide +kernel : decode k_P_parting.2.1 21 = .ok (.ireturn, 1)), hL⟩
set_option maxRecDepth 100000 in
set_option maxHeartbeats 4000000 in
theorem P_part_run {x1 : Int32} {x2 : Int32} {m m' : Mem} {r : Int32} (hL : PL m) (h : P_part x1 x2 m = some (r, m')) : Run k_P_part 0 [(0, .ref 0), (1, .int x1), (2, .int x2)] [] m (some (.int r)) m' ∧ PL m' := by
  unfold P_part at h
  refine ai (r_iload_n (pc := 0) (k := 1) (by decide +kernel : decode k_P_part.2.1 0 = .ok (.iload_n 1, 1)) rfl rfl) ?_
  obtain ⟨r1, hr1, h⟩ := bp_some h
  refine ai (q_callS (pc := 1) (As := [.int x1]) (st := []) (st2 := [.int r1]) rfl rfl (by decide +kernel : decode k_P_part.2.1 1 = .ok (.invokestatic 132, 3)) lc_11_132 mo_P_isTask ⟨Nat.le_of_ble_eq_true rfl, Nat.le_of_ble_eq_true rfl⟩ (Nat.le_of_ble_eq_true rfl) (Nat.le_of_ble_eq_true rfl) (P_isTask_run hr1)) ?_
  rcases ite_some h with ⟨c2, h⟩ | ⟨c2, h⟩
  · refine ai (r_if_eq_t (pc := 4) (tgt := 20) (by decide +kernel : decode k_P_part.2.1 4 = .ok (.ifCond .eq (16), 3)) (by decide) c2) ?_
    refine ai (r_iconst (pc := 20) (by decide +kernel : decode k_P_part.2.1 20 = .ok (.iconst (-1), 1)) ic_m1) ?_
    cases h
    exact ⟨r_iret rfl (by decide +kernel : decode k_P_part.2.1 21 = .ok (.ireturn, 1)), hL⟩
  · refine ai (r_if_eq_f (pc := 4) 20 (by decide +kernel : decode k_P_part.2.1 4 = .ok (.ifCond .eq (16), 3)) (by decide) c2) ?_
    refine ai (p_aload_n (pc := 7) (k := 0) (by decide +kernel : decode k_P_part.2.1 7 = .ok (.aload_n 0, 1)) rfl rfl) ?_
    refine ai (p_getr (pc := 8) (PR_1414_0 hL) (by decide +kernel : decode k_P_part.2.1 8 = .ok (.getfield 67, 3)) lg_11_67 (PC_0 hL).1) ?_
    refine ai (p_getr (pc := 11) (PR_898_41 hL) (by decide +kernel : decode k_P_part.2.1 11 = .ok (.getfield 355, 3)) lg_11_355 (PC_41 hL).1) ?_
    refine ai (r_iload_n (pc := 14) (k := 1) (by decide +kernel : decode k_P_part.2.1 14 = .ok (.iload_n 1, 1)) rfl rfl) ?_
    obtain ⟨g3, h⟩ := gd_some h
    refine ai (p_iald (pc := 15) (by decide +kernel : decode k_P_part.2.1 15 = .ok (.iaload, 1)) (PC_44 hL).1 (PC_44 hL).2 g3) ?_
    refine ai (r_iconst (pc := 16) (by decide +kernel : decode k_P_part.2.1 16 = .ok (.iconst (-1), 1)) ic_m1) ?_
    rcases ite_some h with ⟨c4, h⟩ | ⟨c4, h⟩
    · refine ai (r_icmp_ne_f (pc := 17) 22 (by decide +kernel : decode k_P_part.2.1 17 = .ok (.if_icmp .ne (5), 3)) (by decide) c4) ?_
      refine ai (r_iconst (pc := 20) (by decide +kernel : decode k_P_part.2.1 20 = .ok (.iconst (-1), 1)) ic_m1) ?_
      cases h
      exact ⟨r_iret rfl (by decide +kernel : decode k_P_part.2.1 21 = .ok (.ireturn, 1)), hL⟩
    · refine ai (r_icmp_ne_t (pc := 17) (tgt := 22) (by decide +kernel : decode k_P_part.2.1 17 = .ok (.if_icmp .ne (5), 3)) (by decide) c4) ?_
      refine ai (r_iload_n (pc := 22) (k := 2) (by decide +kernel : decode k_P_part.2.1 22 = .ok (.iload_n 2, 1)) rfl rfl) ?_
      rcases ite_some h with ⟨c5, h⟩ | ⟨c5, h⟩
      · refine ai (r_if_ne_f (pc := 23) 38 (by decide +kernel : decode k_P_part.2.1 23 = .ok (.ifCond .ne (15), 3)) (by decide) c5) ?_
        refine ai (p_aload_n (pc := 26) (k := 0) (by decide +kernel : decode k_P_part.2.1 26 = .ok (.aload_n 0, 1)) rfl rfl) ?_
        refine ai (p_getr (pc := 27) (PR_1414_0 hL) (by decide +kernel : decode k_P_part.2.1 27 = .ok (.getfield 67, 3)) lg_11_67 (PC_0 hL).1) ?_
        refine ai (p_getr (pc := 30) (PR_898_41 hL) (by decide +kernel : decode k_P_part.2.1 30 = .ok (.getfield 355, 3)) lg_11_355 (PC_41 hL).1) ?_
        refine ai (r_iload_n (pc := 33) (k := 1) (by decide +kernel : decode k_P_part.2.1 33 = .ok (.iload_n 1, 1)) rfl rfl) ?_
        obtain ⟨g6, h⟩ := gd_some h
        refine ai (p_iald (pc := 34) (by decide +kernel : decode k_P_part.2.1 34 = .ok (.iaload, 1)) (PC_44 hL).1 (PC_44 hL).2 g6) ?_
        refine ai (r_goto (pc := 35) (tgt := 56) (by decide +kernel : decode k_P_part.2.1 35 = .ok (.goto (21), 3)) (by decide)) ?_
        cases h
        exact ⟨r_iret rfl (by decide +kernel : decode k_P_part.2.1 56 = .ok (.ireturn, 1)), hL⟩
      · refine ai (r_if_ne_t (pc := 23) (tgt := 38) (by decide +kernel : decode k_P_part.2.1 23 = .ok (.ifCond .ne (15), 3)) (by decide) c5) ?_
        refine ai (r_iload_n (pc := 38) (k := 2) (by decide +kernel : decode k_P_part.2.1 38 = .ok (.iload_n 2, 1)) rfl rfl) ?_
        refine ai (r_iconst (pc := 39) (by decide +kernel : decode k_P_part.2.1 39 = .ok (.iconst 1, 1)) ic_1) ?_
        rcases ite_some h with ⟨c7, h⟩ | ⟨c7, h⟩
        · refine ai (r_icmp_ne_f (pc := 40) 55 (by decide +kernel : decode k_P_part.2.1 40 = .ok (.if_icmp .ne (15), 3)) (by decide) c7) ?_
          refine ai (p_aload_n (pc := 43) (k := 0) (by decide +kernel : decode k_P_part.2.1 43 = .ok (.aload_n 0, 1)) rfl rfl) ?_
          refine ai (p_getr (pc := 44) (PR_1414_0 hL) (by decide +kernel : decode k_P_part.2.1 44 = .ok (.getfield 67, 3)) lg_11_67 (PC_0 hL).1) ?_
          refine ai (p_getr (pc := 47) (PR_899_41 hL) (by decide +kernel : decode k_P_part.2.1 47 = .ok (.getfield 358, 3)) lg_11_358 (PC_41 hL).1) ?_
          refine ai (r_iload_n (pc := 50) (k := 1) (by decide +kernel : decode k_P_part.2.1 50 = .ok (.iload_n 1, 1)) rfl rfl) ?_
          obtain ⟨g8, h⟩ := gd_some h
          refine ai (p_iald (pc := 51) (by decide +kernel : decode k_P_part.2.1 51 = .ok (.iaload, 1)) (PC_45 hL).1 (PC_45 hL).2 g8) ?_
          refine ai (r_goto (pc := 52) (tgt := 56) (by decide +kernel : decode k_P_part.2.1 52 = .ok (.goto (4), 3)) (by decide)) ?_
          cases h
          exact ⟨r_iret rfl (by decide +kernel : decode k_P_part.2.1 56 = .ok (.ireturn, 1)), hL⟩
        · refine ai (r_icmp_ne_t (pc := 40) (tgt := 55) (by decide +kernel : decode k_P_part.2.1 40 = .ok (.if_icmp .ne (15), 3)) (by decide) c7) ?_
          refine ai (r_iconst (pc := 55) (by decide +kernel : decode k_P_part.2.1 55 = .ok (.iconst (-1), 1)) ic_m1) ?_
          cases h
          exact ⟨r_iret rfl (by decide +kernel : decode k_P_part.2.1 56 = .ok (.ireturn, 1)), hL⟩
set_option maxRecDepth 100000 in
set_option maxHeartbeats 4000000 in
theorem P_turned_72_run {x3 : Int32} {x4 : Int32} {m m' : Mem} {r : Int32} (hL : PL m) (h : P_turned_72 x3 x4 m = some (r, m')) : Run k_P_turned 72 [(3, .int x3), (4, .int x4)] [] m (some (.int r)) m' ∧ PL m' := by
  unfold P_turned_72 at h
  refine ai (r_iload_n (pc := 72) (k := 0) (by decide +kernel : decode k_P_turned.2.1 72 = .ok (.iload_n 3, 1)) rfl rfl) ?_
  refine ai (r_bipush (pc := 73) (by decide +kernel : decode k_P_turned.2.1 73 = .ok (.bipush (20), 2)) (by decide : _ = (20 : Int32))) ?_
  refine ai (r_imul (pc := 75) (by decide +kernel : decode k_P_turned.2.1 75 = .ok (.imul, 1))) ?_
  refine ai (r_iload (pc := 76) (k := 1) (by decide +kernel : decode k_P_turned.2.1 76 = .ok (.iload 4, 2)) rfl) ?_
  refine ai (r_iadd (pc := 78) (by decide +kernel : decode k_P_turned.2.1 78 = .ok (.iadd, 1))) ?_
  cases h
  exact ⟨r_iret rfl (by decide +kernel : decode k_P_turned.2.1 79 = .ok (.ireturn, 1)), hL⟩
set_option maxRecDepth 100000 in
set_option maxHeartbeats 4000000 in
theorem P_turned_86_run {k26 : Int32 → Int32 → Int32 → Mem → Option (Int32 × Mem)} {x1 : Int32} {x2 : Int32} {x3 : Int32} {m m' : Mem} {r : Int32} (hk26 : ∀ (x1 : Int32) (x2 : Int32) (x3 : Int32) (m : Mem) (r : Int32) (m' : Mem), PL m → k26 x1 x2 x3 m = some (r, m') → Run k_P_turned 26 [(0, .ref 0), (1, .int x1), (2, .int x2), (3, .int x3)] [] m (some (.int r)) m' ∧ PL m') (hL : PL m) (h : P_turned_86 k26 x1 x2 x3 m = some (r, m')) : Run k_P_turned 86 [(0, .ref 0), (1, .int x1), (2, .int x2), (3, .int x3)] [] m (some (.int r)) m' ∧ PL m' := by
  unfold P_turned_86 at h
  obtain ⟨v1, hv1, h⟩ := vb_some h
  refine ai (e_iinc (pc := 86) (k := 3) hv1 ic_1 (by decide +kernel : decode k_P_turned.2.1 86 = .ok (.iinc 3 (1), 3)) rfl (by decide) rfl (ls2 := [(3, .int v1), (0, .ref 0), (1, .int x1), (2, .int x2)]) (i := 3)) ?_
  refine ai (r_goto (pc := 89) (tgt := 26) (by decide +kernel : decode k_P_turned.2.1 89 = .ok (.goto (-63), 3)) (by decide)) ?_
  exact (ai (r_sub [1, 2, 3, 0] rfl) (hk26 x1 x2 v1 m _ _ hL h))
set_option maxRecDepth 100000 in
set_option maxHeartbeats 4000000 in
theorem P_turned_40_run {k26 : Int32 → Int32 → Int32 → Mem → Option (Int32 × Mem)} {n : Nat} {x1 : Int32} {x2 : Int32} {x3 : Int32} {x4 : Int32} {m m' : Mem} {r : Int32} (hk26 : ∀ (x1 : Int32) (x2 : Int32) (x3 : Int32) (m : Mem) (r : Int32) (m' : Mem), PL m → k26 x1 x2 x3 m = some (r, m') → Run k_P_turned 26 [(0, .ref 0), (1, .int x1), (2, .int x2), (3, .int x3)] [] m (some (.int r)) m' ∧ PL m') (hL : PL m) (h : P_turned_40 k26 n x1 x2 x3 x4 m = some (r, m')) : Run k_P_turned 40 [(0, .ref 0), (1, .int x1), (2, .int x2), (3, .int x3), (4, .int x4)] [] m (some (.int r)) m' ∧ PL m' := by
  induction n generalizing x1 x2 x3 x4 m r m' with
  | zero => exact absurd h (by simp [P_turned_40])
  | succ n ih =>
    rw [P_turned_40.eq_2] at h
    refine ai (r_iload (pc := 40) (k := 4) (by decide +kernel : decode k_P_turned.2.1 40 = .ok (.iload 4, 2)) rfl) ?_
    refine ai (r_bipush (pc := 42) (by decide +kernel : decode k_P_turned.2.1 42 = .ok (.bipush (20), 2)) (by decide : _ = (20 : Int32))) ?_
    rcases ite_some h with ⟨c1, h⟩ | ⟨c1, h⟩
    · refine ai (r_icmp_ge_t (pc := 44) (tgt := 86) (by decide +kernel : decode k_P_turned.2.1 44 = .ok (.if_icmp .ge (42), 3)) (by decide) c1) ?_
      exact (ai (r_sub [0, 1, 2, 3] rfl) (P_turned_86_run hk26 hL h))
    · refine ai (r_icmp_ge_f (pc := 44) 86 (by decide +kernel : decode k_P_turned.2.1 44 = .ok (.if_icmp .ge (42), 3)) (by decide) c1) ?_
      refine ai (p_aload_n (pc := 47) (k := 0) (by decide +kernel : decode k_P_turned.2.1 47 = .ok (.aload_n 0, 1)) rfl rfl) ?_
      refine ai (p_getr (pc := 48) (PR_1413_0 hL) (by decide +kernel : decode k_P_turned.2.1 48 = .ok (.getfield 60, 3)) lg_11_60 (PC_0 hL).1) ?_
      refine ai (r_iload_n (pc := 51) (k := 3) (by decide +kernel : decode k_P_turned.2.1 51 = .ok (.iload_n 3, 1)) rfl rfl) ?_
      refine ai (r_iload (pc := 52) (k := 4) (by decide +kernel : decode k_P_turned.2.1 52 = .ok (.iload 4, 2)) rfl) ?_
      refine ai (r_iload_n (pc := 54) (k := 1) (by decide +kernel : decode k_P_turned.2.1 54 = .ok (.iload_n 1, 1)) rfl rfl) ?_
      obtain ⟨r2, m3, hr2, h⟩ := bn_some h
      have q4 := P_Reckoning_weekPay_run hL hr2
      have c5 := (PC_28 hL).1
      have hL := q4.2
      refine ai (q_callV (pc := 55) (As := [.int x3, .int x4, .int x1]) (st := []) (st2 := [.int r2]) (b := 28) rfl rfl (by decide +kernel : decode k_P_turned.2.1 55 = .ok (.invokevirtual 309, 3)) lc_11_309 mo_P_Reckoning_weekPay ⟨Nat.le_of_ble_eq_true rfl, Nat.le_of_ble_eq_true rfl⟩ (Nat.le_of_ble_eq_true rfl) (Nat.le_of_ble_eq_true rfl) c5 q4.1) ?_
      refine ai (p_aload_n (pc := 58) (k := 0) (by decide +kernel : decode k_P_turned.2.1 58 = .ok (.aload_n 0, 1)) rfl rfl) ?_
      refine ai (p_getr (pc := 59) (PR_1413_0 hL) (by decide +kernel : decode k_P_turned.2.1 59 = .ok (.getfield 60, 3)) lg_11_60 (PC_0 hL).1) ?_
      refine ai (r_iload_n (pc := 62) (k := 3) (by decide +kernel : decode k_P_turned.2.1 62 = .ok (.iload_n 3, 1)) rfl rfl) ?_
      refine ai (r_iload (pc := 63) (k := 4) (by decide +kernel : decode k_P_turned.2.1 63 = .ok (.iload 4, 2)) rfl) ?_
      refine ai (r_iload_n (pc := 65) (k := 2) (by decide +kernel : decode k_P_turned.2.1 65 = .ok (.iload_n 2, 1)) rfl rfl) ?_
      obtain ⟨r6, m7, hr6, h⟩ := bn_some h
      have q8 := P_Reckoning_weekPay_run hL hr6
      have c9 := (PC_28 hL).1
      have hL := q8.2
      refine ai (q_callV (pc := 66) (As := [.int x3, .int x4, .int x2]) (st := [.int r2]) (st2 := [.int r6, .int r2]) (b := 28) rfl rfl (by decide +kernel : decode k_P_turned.2.1 66 = .ok (.invokevirtual 309, 3)) lc_11_309 mo_P_Reckoning_weekPay ⟨Nat.le_of_ble_eq_true rfl, Nat.le_of_ble_eq_true rfl⟩ (Nat.le_of_ble_eq_true rfl) (Nat.le_of_ble_eq_true rfl) c9 q8.1) ?_
      rcases ite_some h with ⟨c10, h⟩ | ⟨c10, h⟩
      · refine ai (r_icmp_eq_t (pc := 69) (tgt := 80) (by decide +kernel : decode k_P_turned.2.1 69 = .ok (.if_icmp .eq (11), 3)) (by decide) c10) ?_
        obtain ⟨v11, hv11, h⟩ := vb_some h
        refine ai (e_iinc (pc := 80) (k := 4) hv11 ic_1 (by decide +kernel : decode k_P_turned.2.1 80 = .ok (.iinc 4 (1), 3)) rfl (by decide) rfl (ls2 := [(4, .int v11), (0, .ref 0), (1, .int x1), (2, .int x2), (3, .int x3)]) (i := 4)) ?_
        refine ai (r_goto (pc := 83) (tgt := 40) (by decide +kernel : decode k_P_turned.2.1 83 = .ok (.goto (-43), 3)) (by decide)) ?_
        exact (ai (r_sub [1, 2, 3, 4, 0] rfl) (ih hL h))
      · refine ai (r_icmp_eq_f (pc := 69) 80 (by decide +kernel : decode k_P_turned.2.1 69 = .ok (.if_icmp .eq (11), 3)) (by decide) c10) ?_
        exact (ai (r_sub [3, 4] rfl) (P_turned_72_run hL h))
set_option maxRecDepth 100000 in
set_option maxHeartbeats 4000000 in
theorem P_turned_26_run {n : Nat} {x1 : Int32} {x2 : Int32} {x3 : Int32} {m m' : Mem} {r : Int32} (hL : PL m) (h : P_turned_26 n x1 x2 x3 m = some (r, m')) : Run k_P_turned 26 [(0, .ref 0), (1, .int x1), (2, .int x2), (3, .int x3)] [] m (some (.int r)) m' ∧ PL m' := by
  induction n generalizing x1 x2 x3 m r m' with
  | zero => exact absurd h (by simp [P_turned_26])
  | succ n ih =>
    rw [P_turned_26.eq_2] at h
    refine ai (r_iload_n (pc := 26) (k := 3) (by decide +kernel : decode k_P_turned.2.1 26 = .ok (.iload_n 3, 1)) rfl rfl) ?_
    refine ai (p_aload_n (pc := 27) (k := 0) (by decide +kernel : decode k_P_turned.2.1 27 = .ok (.aload_n 0, 1)) rfl rfl) ?_
    refine ai (p_getr (pc := 28) (PR_1408_0 hL) (by decide +kernel : decode k_P_turned.2.1 28 = .ok (.getfield 19, 3)) lg_11_19 (PC_0 hL).1) ?_
    refine ai (r_getI (pc := 31) (by decide +kernel : decode k_P_turned.2.1 31 = .ok (.getfield 333, 3)) lg_11_333 (by decide) (PC_5 hL).1) ?_
    rcases ite_some h with ⟨c1, h⟩ | ⟨c1, h⟩
    · refine ai (r_icmp_ge_t (pc := 34) (tgt := 92) (by decide +kernel : decode k_P_turned.2.1 34 = .ok (.if_icmp .ge (58), 3)) (by decide) c1) ?_
      refine ai (r_iconst (pc := 92) (by decide +kernel : decode k_P_turned.2.1 92 = .ok (.iconst (-1), 1)) ic_m1) ?_
      cases h
      exact ⟨r_iret rfl (by decide +kernel : decode k_P_turned.2.1 93 = .ok (.ireturn, 1)), hL⟩
    · refine ai (r_icmp_ge_f (pc := 34) 92 (by decide +kernel : decode k_P_turned.2.1 34 = .ok (.if_icmp .ge (58), 3)) (by decide) c1) ?_
      refine ai (r_iconst (pc := 37) (by decide +kernel : decode k_P_turned.2.1 37 = .ok (.iconst 0, 1)) ic_0) ?_
      refine ai (e_istore (pc := 38) rfl (by decide +kernel : decode k_P_turned.2.1 38 = .ok (.istore 4, 2)) (by decide) rfl (ls2 := [(4, .int 0), (0, .ref 0), (1, .int x1), (2, .int x2), (3, .int x3)]) (i := 4)) ?_
      exact (ai (r_sub [1, 2, 3, 4, 0] rfl) (P_turned_40_run (fun _ _ _ _ _ _ q1 q3 => ih q1 q3) hL h))
set_option maxRecDepth 100000 in
set_option maxHeartbeats 4000000 in
theorem P_turned_run {x1 : Int32} {x2 : Int32} {m m' : Mem} {r : Int32} (hL : PL m) (h : P_turned x1 x2 m = some (r, m')) : Run k_P_turned 0 [(0, .ref 0), (1, .int x1), (2, .int x2)] [] m (some (.int r)) m' ∧ PL m' := by
  unfold P_turned at h
  refine ai (p_aload_n (pc := 0) (k := 0) (by decide +kernel : decode k_P_turned.2.1 0 = .ok (.aload_n 0, 1)) rfl rfl) ?_
  refine ai (p_getr (pc := 1) (PR_1409_0 hL) (by decide +kernel : decode k_P_turned.2.1 1 = .ok (.getfield 26, 3)) lg_11_26 (PC_0 hL).1) ?_
  refine ai (r_iload_n (pc := 4) (k := 1) (by decide +kernel : decode k_P_turned.2.1 4 = .ok (.iload_n 1, 1)) rfl rfl) ?_
  obtain ⟨r1, m2, hr1, h⟩ := bn_some h
  have q3 := P_Ledger_canKnow_run hL hr1
  have c4 := (PC_13 hL).1
  have hL := q3.2
  refine ai (q_callV (pc := 5) (As := [.int x1]) (st := []) (st2 := [.int r1]) (b := 13) rfl rfl (by decide +kernel : decode k_P_turned.2.1 5 = .ok (.invokevirtual 189, 3)) lc_11_189 mo_P_Ledger_canKnow ⟨Nat.le_of_ble_eq_true rfl, Nat.le_of_ble_eq_true rfl⟩ (Nat.le_of_ble_eq_true rfl) (Nat.le_of_ble_eq_true rfl) c4 q3.1) ?_
  rcases ite_some h with ⟨c5, h⟩ | ⟨c5, h⟩
  · refine ai (r_if_eq_t (pc := 8) (tgt := 22) (by decide +kernel : decode k_P_turned.2.1 8 = .ok (.ifCond .eq (14), 3)) (by decide) c5) ?_
    refine ai (r_iconst (pc := 22) (by decide +kernel : decode k_P_turned.2.1 22 = .ok (.iconst (-1), 1)) ic_m1) ?_
    cases h
    exact ⟨r_iret rfl (by decide +kernel : decode k_P_turned.2.1 23 = .ok (.ireturn, 1)), hL⟩
  · refine ai (r_if_eq_f (pc := 8) 22 (by decide +kernel : decode k_P_turned.2.1 8 = .ok (.ifCond .eq (14), 3)) (by decide) c5) ?_
    refine ai (p_aload_n (pc := 11) (k := 0) (by decide +kernel : decode k_P_turned.2.1 11 = .ok (.aload_n 0, 1)) rfl rfl) ?_
    refine ai (p_getr (pc := 12) (PR_1409_0 hL) (by decide +kernel : decode k_P_turned.2.1 12 = .ok (.getfield 26, 3)) lg_11_26 (PC_0 hL).1) ?_
    refine ai (r_iload_n (pc := 15) (k := 2) (by decide +kernel : decode k_P_turned.2.1 15 = .ok (.iload_n 2, 1)) rfl rfl) ?_
    obtain ⟨r6, m7, hr6, h⟩ := bn_some h
    have q8 := P_Ledger_canKnow_run hL hr6
    have c9 := (PC_13 hL).1
    have hL := q8.2
    refine ai (q_callV (pc := 16) (As := [.int x2]) (st := []) (st2 := [.int r6]) (b := 13) rfl rfl (by decide +kernel : decode k_P_turned.2.1 16 = .ok (.invokevirtual 189, 3)) lc_11_189 mo_P_Ledger_canKnow ⟨Nat.le_of_ble_eq_true rfl, Nat.le_of_ble_eq_true rfl⟩ (Nat.le_of_ble_eq_true rfl) (Nat.le_of_ble_eq_true rfl) c9 q8.1) ?_
    rcases ite_some h with ⟨c10, h⟩ | ⟨c10, h⟩
    · refine ai (r_if_ne_f (pc := 19) 24 (by decide +kernel : decode k_P_turned.2.1 19 = .ok (.ifCond .ne (5), 3)) (by decide) c10) ?_
      refine ai (r_iconst (pc := 22) (by decide +kernel : decode k_P_turned.2.1 22 = .ok (.iconst (-1), 1)) ic_m1) ?_
      cases h
      exact ⟨r_iret rfl (by decide +kernel : decode k_P_turned.2.1 23 = .ok (.ireturn, 1)), hL⟩
    · refine ai (r_if_ne_t (pc := 19) (tgt := 24) (by decide +kernel : decode k_P_turned.2.1 19 = .ok (.ifCond .ne (5), 3)) (by decide) c10) ?_
      refine ai (r_iconst (pc := 24) (by decide +kernel : decode k_P_turned.2.1 24 = .ok (.iconst 0, 1)) ic_0) ?_
      refine ai (e_istore_n (pc := 25) rfl (by decide +kernel : decode k_P_turned.2.1 25 = .ok (.istore_n 3, 1)) rfl (by decide) rfl (ls2 := [(3, .int 0), (0, .ref 0), (1, .int x1), (2, .int x2)]) (i := 3)) ?_
      exact (ai (r_sub [1, 2, 3, 0] rfl) (P_turned_26_run hL h))
set_option maxRecDepth 100000 in
set_option maxHeartbeats 4000000 in
theorem P_count_run {x1 : Int32} {m m' : Mem} {r : Int32} (hL : PL m) (h : P_count x1 m = some (r, m')) : Run k_P_count 0 [(0, .ref 0), (1, .int x1)] [] m (some (.int r)) m' ∧ PL m' := by
  unfold P_count at h
  refine ai (r_iload_n (pc := 0) (k := 1) (by decide +kernel : decode k_P_count.2.1 0 = .ok (.iload_n 1, 1)) rfl rfl) ?_
  rcases ite_some h with ⟨c1, h⟩ | ⟨c1, h⟩
  · refine ai (r_tableIn (pc := 1) (tgt := 44) (off := 43) (by decide +kernel : decode k_P_count.2.1 1 = .ok (.tableswitch (99) (0) (6) #[43, 51, 59, 67, 75, 83, 91], 43)) (by rw [c1]; decide) (by rw [c1]; decide) (by rw [c1]; decide +kernel) (by decide)) ?_
    refine ai (p_aload_n (pc := 44) (k := 0) (by decide +kernel : decode k_P_count.2.1 44 = .ok (.aload_n 0, 1)) rfl rfl) ?_
    refine ai (p_getr (pc := 45) (PR_1408_0 hL) (by decide +kernel : decode k_P_count.2.1 45 = .ok (.getfield 19, 3)) lg_11_19 (PC_0 hL).1) ?_
    refine ai (r_getI (pc := 48) (by decide +kernel : decode k_P_count.2.1 48 = .ok (.getfield 110, 3)) lg_11_110 (by decide) (PC_5 hL).1) ?_
    cases h
    exact ⟨r_iret rfl (by decide +kernel : decode k_P_count.2.1 51 = .ok (.ireturn, 1)), hL⟩
  · skip
    rcases ite_some h with ⟨c2, h⟩ | ⟨c2, h⟩
    · refine ai (r_tableIn (pc := 1) (tgt := 52) (off := 51) (by decide +kernel : decode k_P_count.2.1 1 = .ok (.tableswitch (99) (0) (6) #[43, 51, 59, 67, 75, 83, 91], 43)) (by rw [c2]; decide) (by rw [c2]; decide) (by rw [c2]; decide +kernel) (by decide)) ?_
      refine ai (p_aload_n (pc := 52) (k := 0) (by decide +kernel : decode k_P_count.2.1 52 = .ok (.aload_n 0, 1)) rfl rfl) ?_
      refine ai (p_getr (pc := 53) (PR_1408_0 hL) (by decide +kernel : decode k_P_count.2.1 53 = .ok (.getfield 19, 3)) lg_11_19 (PC_0 hL).1) ?_
      refine ai (r_getI (pc := 56) (by decide +kernel : decode k_P_count.2.1 56 = .ok (.getfield 361, 3)) lg_11_361 (by decide) (PC_5 hL).1) ?_
      cases h
      exact ⟨r_iret rfl (by decide +kernel : decode k_P_count.2.1 59 = .ok (.ireturn, 1)), hL⟩
    · skip
      rcases ite_some h with ⟨c3, h⟩ | ⟨c3, h⟩
      · refine ai (r_tableIn (pc := 1) (tgt := 60) (off := 59) (by decide +kernel : decode k_P_count.2.1 1 = .ok (.tableswitch (99) (0) (6) #[43, 51, 59, 67, 75, 83, 91], 43)) (by rw [c3]; decide) (by rw [c3]; decide) (by rw [c3]; decide +kernel) (by decide)) ?_
        refine ai (p_aload_n (pc := 60) (k := 0) (by decide +kernel : decode k_P_count.2.1 60 = .ok (.aload_n 0, 1)) rfl rfl) ?_
        refine ai (p_getr (pc := 61) (PR_1408_0 hL) (by decide +kernel : decode k_P_count.2.1 61 = .ok (.getfield 19, 3)) lg_11_19 (PC_0 hL).1) ?_
        refine ai (r_getI (pc := 64) (by decide +kernel : decode k_P_count.2.1 64 = .ok (.getfield 333, 3)) lg_11_333 (by decide) (PC_5 hL).1) ?_
        cases h
        exact ⟨r_iret rfl (by decide +kernel : decode k_P_count.2.1 67 = .ok (.ireturn, 1)), hL⟩
      · skip
        rcases ite_some h with ⟨c4, h⟩ | ⟨c4, h⟩
        · refine ai (r_tableIn (pc := 1) (tgt := 68) (off := 67) (by decide +kernel : decode k_P_count.2.1 1 = .ok (.tableswitch (99) (0) (6) #[43, 51, 59, 67, 75, 83, 91], 43)) (by rw [c4]; decide) (by rw [c4]; decide) (by rw [c4]; decide +kernel) (by decide)) ?_
          refine ai (p_aload_n (pc := 68) (k := 0) (by decide +kernel : decode k_P_count.2.1 68 = .ok (.aload_n 0, 1)) rfl rfl) ?_
          refine ai (p_getr (pc := 69) (PR_1409_0 hL) (by decide +kernel : decode k_P_count.2.1 69 = .ok (.getfield 26, 3)) lg_11_26 (PC_0 hL).1) ?_
          refine ai (r_getI (pc := 72) (by decide +kernel : decode k_P_count.2.1 72 = .ok (.getfield 78, 3)) lg_11_78 (by decide) (PC_13 hL).1) ?_
          cases h
          exact ⟨r_iret rfl (by decide +kernel : decode k_P_count.2.1 75 = .ok (.ireturn, 1)), hL⟩
        · skip
          rcases ite_some h with ⟨c5, h⟩ | ⟨c5, h⟩
          · refine ai (r_tableIn (pc := 1) (tgt := 76) (off := 75) (by decide +kernel : decode k_P_count.2.1 1 = .ok (.tableswitch (99) (0) (6) #[43, 51, 59, 67, 75, 83, 91], 43)) (by rw [c5]; decide) (by rw [c5]; decide) (by rw [c5]; decide +kernel) (by decide)) ?_
            refine ai (p_aload_n (pc := 76) (k := 0) (by decide +kernel : decode k_P_count.2.1 76 = .ok (.aload_n 0, 1)) rfl rfl) ?_
            refine ai (p_getr (pc := 77) (PR_1409_0 hL) (by decide +kernel : decode k_P_count.2.1 77 = .ok (.getfield 26, 3)) lg_11_26 (PC_0 hL).1) ?_
            refine ai (r_getI (pc := 80) (by decide +kernel : decode k_P_count.2.1 80 = .ok (.getfield 81, 3)) lg_11_81 (by decide) (PC_13 hL).1) ?_
            cases h
            exact ⟨r_iret rfl (by decide +kernel : decode k_P_count.2.1 83 = .ok (.ireturn, 1)), hL⟩
          · skip
            rcases ite_some h with ⟨c6, h⟩ | ⟨c6, h⟩
            · refine ai (r_tableIn (pc := 1) (tgt := 84) (off := 83) (by decide +kernel : decode k_P_count.2.1 1 = .ok (.tableswitch (99) (0) (6) #[43, 51, 59, 67, 75, 83, 91], 43)) (by rw [c6]; decide) (by rw [c6]; decide) (by rw [c6]; decide +kernel) (by decide)) ?_
              refine ai (p_aload_n (pc := 84) (k := 0) (by decide +kernel : decode k_P_count.2.1 84 = .ok (.aload_n 0, 1)) rfl rfl) ?_
              refine ai (p_getr (pc := 85) (PR_1411_0 hL) (by decide +kernel : decode k_P_count.2.1 85 = .ok (.getfield 42, 3)) lg_11_42 (PC_0 hL).1) ?_
              refine ai (r_getI (pc := 88) (by decide +kernel : decode k_P_count.2.1 88 = .ok (.getfield 364, 3)) lg_11_364 (by decide) (PC_22 hL).1) ?_
              cases h
              exact ⟨r_iret rfl (by decide +kernel : decode k_P_count.2.1 91 = .ok (.ireturn, 1)), hL⟩
            · skip
              rcases ite_some h with ⟨c7, h⟩ | ⟨c7, h⟩
              · refine ai (r_tableIn (pc := 1) (tgt := 92) (off := 91) (by decide +kernel : decode k_P_count.2.1 1 = .ok (.tableswitch (99) (0) (6) #[43, 51, 59, 67, 75, 83, 91], 43)) (by rw [c7]; decide) (by rw [c7]; decide) (by rw [c7]; decide +kernel) (by decide)) ?_
                refine ai (p_aload_n (pc := 92) (k := 0) (by decide +kernel : decode k_P_count.2.1 92 = .ok (.aload_n 0, 1)) rfl rfl) ?_
                refine ai (p_getr (pc := 93) (PR_1410_0 hL) (by decide +kernel : decode k_P_count.2.1 93 = .ok (.getfield 33, 3)) lg_11_33 (PC_0 hL).1) ?_
                refine ai (r_getI (pc := 96) (by decide +kernel : decode k_P_count.2.1 96 = .ok (.getfield 71, 3)) lg_11_71 (by decide) (PC_16 hL).1) ?_
                cases h
                exact ⟨r_iret rfl (by decide +kernel : decode k_P_count.2.1 99 = .ok (.ireturn, 1)), hL⟩
              · skip
                have ho := tab_out (x := x1) 0 7 (by decide) (by decide) (fun k hk => by
                  rcases (show k = 0 ∨ k = 1 ∨ k = 2 ∨ k = 3 ∨ k = 4 ∨ k = 5 ∨ k = 6 by omega) with rfl | rfl | rfl | rfl | rfl | rfl | rfl
                  · exact fun z => c1 (z.trans (by decide))
                  · exact fun z => c2 (z.trans (by decide))
                  · exact fun z => c3 (z.trans (by decide))
                  · exact fun z => c4 (z.trans (by decide))
                  · exact fun z => c5 (z.trans (by decide))
                  · exact fun z => c6 (z.trans (by decide))
                  · exact fun z => c7 (z.trans (by decide)))
                refine ai (r_tableOut (pc := 1) (tgt := 100) (by decide +kernel : decode k_P_count.2.1 1 = .ok (.tableswitch (99) (0) (6) #[43, 51, 59, 67, 75, 83, 91], 43)) (by simpa using ho) (by decide)) ?_
                refine ai (r_iconst (pc := 100) (by decide +kernel : decode k_P_count.2.1 100 = .ok (.iconst (-1), 1)) ic_m1) ?_
                cases h
                exact ⟨r_iret rfl (by decide +kernel : decode k_P_count.2.1 101 = .ok (.ireturn, 1)), hL⟩
