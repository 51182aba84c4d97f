/-! written by gen/emit.py -/
set_option maxRecDepth 100000 in
set_option maxHeartbeats 4000000 in
theorem P_part_run {x1 : Int32} {x2 : Int32} {m m' : Mem} {r : Int32} (hL : PL m) (h : P_part x1 x2 m = some (r, m')) : Run k_P_part 0 [(0, .ref 0), (1, .int x1), (2, .int x2)] [] m (some (.int r)) m' ∧ PL m' := by
  unfold P_part at h
  refine ai (r_iload_n (pc := 0) (k := 1) (by decide +kernel : decode k_P_part.2.1 0 = .ok (.iload_n 1, 1)) rfl rfl) ?_
  obtain ⟨r1, hr1, h⟩ := bp_some h
  refine ai (q_callS (pc := 1) (As := [.int x1]) (st := []) (st2 := [.int r1]) rfl rfl (by decide +kernel : decode k_P_part.2.1 1 = .ok (.invokestatic 132, 3)) lc_11_132 mo_P_isTask ⟨Nat.le_of_ble_eq_true rfl, Nat.le_of_ble_eq_true rfl⟩ (Nat.le_of_ble_eq_true rfl) (Nat.le_of_ble_eq_true rfl) (P_isTask_run hr1)) ?_
  rcases ite_some h with ⟨c2, h⟩ | ⟨c2, h⟩
  · refine ai (r_if_eq_t (pc := 4) (tgt := 20) (by decide +kernel : decode k_P_part.2.1 4 = .ok (.ifCond .eq (16), 3)) (by decide) c2) ?_
    refine ai (r_iconst (pc := 20) (by decide +kernel : decode k_P_part.2.1 20 = .ok (.iconst (-1), 1)) ic_m1) ?_
    cases h
    exact ⟨r_iret rfl (by decide +kernel : decode k_P_part.2.1 21 = .ok (.ireturn, 1)), hL⟩
  · refine ai (r_if_eq_f (pc := 4) 20 (by decide +kernel : decode k_P_part.2.1 4 = .ok (.ifCond .eq (16), 3)) (by decide) c2) ?_
    refine ai (p_aload_n (pc := 7) (k := 0) (by decide +kernel : decode k_P_part.2.1 7 = .ok (.aload_n 0, 1)) rfl rfl) ?_
    refine ai (p_getr (pc := 8) (PR_1414_0 hL) (by decide +kernel : decode k_P_part.2.1 8 = .ok (.getfield 67, 3)) lg_11_67 (PC_0 hL).1) ?_
    refine ai (p_getr (pc := 11) (PR_898_41 hL) (by decide +kernel : decode k_P_part.2.1 11 = .ok (.getfield 355, 3)) lg_11_355 (PC_41 hL).1) ?_
    refine ai (r_iload_n (pc := 14) (k := 1) (by decide +kernel : decode k_P_part.2.1 14 = .ok (.iload_n 1, 1)) rfl rfl) ?_
    obtain ⟨g3, h⟩ := gd_some h
    refine ai (p_iald (pc := 15) (by decide +kernel : decode k_P_part.2.1 15 = .ok (.iaload, 1)) (PC_44 hL).1 (PC_44 hL).2 g3) ?_
    refine ai (r_iconst (pc := 16) (by decide +kernel : decode k_P_part.2.1 16 = .ok (.iconst (-1), 1)) ic_m1) ?_
    rcases ite_some h with ⟨c4, h⟩ | ⟨c4, h⟩
    · refine ai (r_icmp_ne_f (pc := 17) 22 (by decide +kernel : decode k_P_part.2.1 17 = .ok (.if_icmp .ne (5), 3)) (by decide) c4) ?_
      refine ai (r_iconst (pc := 20) (by decide +kernel : decode k_P_part.2.1 20 = .ok (.iconst (-1), 1)) ic_m1) ?_
      cases h
      exact ⟨r_iret rfl (by decide +kernel : decode k_P_part.2.1 21 = .ok (.ireturn, 1)), hL⟩
    · refine ai (r_icmp_ne_t (pc := 17) (tgt := 22) (by decide +kernel : decode k_P_part.2.1 17 = .ok (.if_icmp .ne (5), 3)) (by decide) c4) ?_
      refine ai (r_iload_n (pc := 22) (k := 2) (by decide +kernel : decode k_P_part.2.1 22 = .ok (.iload_n 2, 1)) rfl rfl) ?_
      rcases ite_some h with ⟨c5, h⟩ | ⟨c5, h⟩
      · refine ai (r_if_ne_f (pc := 23) 38 (by decide +kernel : decode k_P_part.2.1 23 = .ok (.ifCond .ne (15), 3)) (by decide) c5) ?_
        refine ai (p_aload_n (pc := 26) (k := 0) (by decide +kernel : decode k_P_part.2.1 26 = .ok (.aload_n 0, 1)) rfl rfl) ?_
        refine ai (p_getr (pc := 27) (PR_1414_0 hL) (by decide +kernel : decode k_P_part.2.1 27 = .ok (.getfield 67, 3)) lg_11_67 (PC_0 hL).1) ?_
        refine ai (p_getr (pc := 30) (PR_898_41 hL) (by decide +kernel : decode k_P_part.2.1 30 = .ok (.getfield 355, 3)) lg_11_355 (PC_41 hL).1) ?_
        refine ai (r_iload_n (pc := 33) (k := 1) (by decide +kernel : decode k_P_part.2.1 33 = .ok (.iload_n 1, 1)) rfl rfl) ?_
        obtain ⟨g6, h⟩ := gd_some h
        refine ai (p_iald (pc := 34) (by decide +kernel : decode k_P_part.2.1 34 = .ok (.iaload, 1)) (PC_44 hL).1 (PC_44 hL).2 g6) ?_
        refine ai (r_goto (pc := 35) (tgt := 56) (by decide +kernel : decode k_P_part.2.1 35 = .ok (.goto (21), 3)) (by decide)) ?_
        cases h
        exact ⟨r_iret rfl (by decide +kernel : decode k_P_part.2.1 56 = .ok (.ireturn, 1)), hL⟩
      · refine ai (r_if_ne_t (pc := 23) (tgt := 38) (by decide +kernel : decode k_P_part.2.1 23 = .ok (.ifCond .ne (15), 3)) (by decide) c5) ?_
        refine ai (r_iload_n (pc := 38) (k := 2) (by decide +kernel : decode k_P_part.2.1 38 = .ok (.iload_n 2, 1)) rfl rfl) ?_
        refine ai (r_iconst (pc := 39) (by decide +kernel : decode k_P_part.2.1 39 = .ok (.iconst 1, 1)) ic_1) ?_
        rcases ite_some h with ⟨c7, h⟩ | ⟨c7, h⟩
        · refine ai (r_icmp_ne_f (pc := 40) 55 (by decide +kernel : decode k_P_part.2.1 40 = .ok (.if_icmp .ne (15), 3)) (by decide) c7) ?_
          refine ai (p_aload_n (pc := 43) (k := 0) (by decide +kernel : decode k_P_part.2.1 43 = .ok (.aload_n 0, 1)) rfl rfl) ?_
          refine ai (p_getr (pc := 44) (PR_1414_0 hL) (by decide +kernel : decode k_P_part.2.1 44 = .ok (.getfield 67, 3)) lg_11_67 (PC_0 hL).1) ?_
          refine ai (p_getr (pc := 47) (PR_899_41 hL) (by decide +kernel : decode k_P_part.2.1 47 = .ok (.getfield 358, 3)) lg_11_358 (PC_41 hL).1) ?_
          refine ai (r_iload_n (pc := 50) (k := 1) (by decide +kernel : decode k_P_part.2.1 50 = .ok (.iload_n 1, 1)) rfl rfl) ?_
          obtain ⟨g8, h⟩ := gd_some h
          refine ai (p_iald (pc := 51) (by decide +kernel : decode k_P_part.2.1 51 = .ok (.iaload, 1)) (PC_45 hL).1 (PC_45 hL).2 g8) ?_
          refine ai (r_goto (pc := 52) (tgt := 56) (by decide +kernel : decode k_P_part.2.1 52 = .ok (.goto (4), 3)) (by decide)) ?_
          cases h
          exact ⟨r_iret rfl (by decide +kernel : decode k_P_part.2.1 56 = .ok (.ireturn, 1)), hL⟩
        · refine ai (r_icmp_ne_t (pc := 40) (tgt := 55) (by decide +kernel : decode k_P_part.2.1 40 = .ok (.if_icmp .ne (15), 3)) (by decide) c7) ?_
          refine ai (r_iconst (pc := 55) (by decide +kernel : decode k_P_part.2.1 55 = .ok (.iconst (-1), 1)) ic_m1) ?_
          cases h
          exact ⟨r_iret rfl (by decide +kernel : decode k_P_part.2.1 56 = .ok (.ireturn, 1)), hL⟩
set_option maxRecDepth 100000 in
set_option maxHeartbeats 4000000 in
theorem P_turned_72_run {x3 : Int32} {x4 : Int32} {m m' : Mem} {r : Int32} (hL : PL m) (h : P_turned_72 x3 x4 m = some (r, m')) : Run k_P_turned 72 [(3, .int x3), (4, .int x4)] [] m (some (.int r)) m' ∧ PL m' := by
  unfold P_turned_72 at h
  refine ai (r_iload_n (pc := 72) (k := 0) (by decide +kernel : decode k_P_turned.2.1 72 = .ok (.iload_n 3, 1)) rfl rfl) ?_
  refine ai (r_bipush (pc := 73) (by decide +kernel : decode k_P_turned.2.1 73 = .ok (.bipush (20), 2)) (by decide : _ = (20 : Int32))) ?_
  refine ai (r_imul (pc := 75) (by decide +kernel : decode k_P_turned.2.1 75 = .ok (.imul, 1))) ?_
  refine ai (r_iload (pc := 76) (k := 1) (by decide +kernel : decode k_P_turned.2.1 76 = .ok (.iload 4, 2)) rfl) ?_
  refine ai (r_iadd (pc := 78) (by decide +kernel : decode k_P_turned.2.1 78 = .ok (.iadd, 1))) ?_
  cases h
  exact ⟨r_iret rfl (by decide +kernel : decode k_P_turned.2.1 79 = .ok (.ireturn, 1)), hL⟩
set_option maxRecDepth 100000 in
set_option maxHeartbeats 4000000 in
theorem P_turned_86_run {k26 : Int32 → Int32 → Int32 → Mem → Option (Int32 × Mem)} {x1 : Int32} {x2 : Int32} {x3 : Int32} {m m' : Mem} {r : Int32} (hk26 : ∀ (x1 : Int32) (x2 : Int32) (x3 : Int32) (m : Mem) (r : Int32) (m' : Mem), PL m → k26 x1 x2 x3 m = some (r, m') → Run k_P_turned 26 [(0, .ref 0), (1, .int x1), (2, .int x2), (3, .int x3)] [] m (some (.int r)) m' ∧ PL m') (hL : PL m) (h : P_turned_86 k26 x1 x2 x3 m = some (r, m')) : Run k_P_turned 86 [(0, .ref 0), (1, .int x1), (2, .int x2), (3, .int x3)] [] m (some (.int r)) m' ∧ PL m' := by
  unfold P_turned_86 at h
  obtain ⟨v1, hv1, h⟩ := vb_some h
  refine ai (e_iinc (pc := 86) (k := 3) hv1 ic_1 (by decide +kernel : decode k_P_turned.2.1 86 = .ok (.iinc 3 (1), 3)) rfl (by decide) rfl (ls2 := [(3, .int v1), (0, .ref 0), (1, .int x1), (2, .int x2)]) (i := 3)) ?_
  refine ai (r_goto (pc := 89) (tgt := 26) (by decide +kernel : decode k_P_turned.2.1 89 = .ok (.goto (-63), 3)) (by decide)) ?_
  exact (ai (r_sub [1, 2, 3, 0] rfl) (hk26 x1 x2 v1 m _ _ hL h))
set_option maxRecDepth 100000 in
set_option maxHeartbeats 4000000 in
theorem P_turned_40_run {k26 : Int32 → Int32 → Int32 → Mem → Option (Int32 × Mem)} {n : Nat} {x1 : Int32} {x2 : Int32} {x3 : Int32} {x4 : Int32} {m m' : Mem} {r : Int32} (hk26 : ∀ (x1 : Int32) (x2 : Int32) (x3 : Int32) (m : Mem) (r : Int32) (m' : Mem), PL m → k26 x1 x2 x3 m = some (r, m') → Run k_P_turned 26 [(0, .ref 0), (1, .int x1), (2, .int x2), (3, .int x3)] [] m (some (.int r)) m' ∧ PL m') (hL : PL m) (h : P_turned_40 k26 n x1 x2 x3 x4 m = some (r, m')) : Run k_P_turned 40 [(0, .ref 0), (1, .int x1), (2, .int x2), (3, .int x3), (4, .int x4)] [] m (some (.int r)) m' ∧ PL m' := by
  induction n generalizing x1 x2 x3 x4 m r m' with
  | zero => exact absurd h (by simp [P_turned_40])
  | succ n ih =>
    rw [P_turned_40.eq_2] at h
    refine ai (r_iload (pc := 40) (k := 4) (by decide +kernel : decode k_P_turned.2.1 40 = .ok (.iload 4, 2)) rfl) ?_
    refine ai (r_bipush (pc := 42) (by decide +kernel : decode k_P_turned.2.1 42 = .ok (.bipush (20), 2)) (by decide : _ = (20 : Int32))) ?_
    rcases ite_some h with ⟨c1, h⟩ | ⟨c1, h⟩
    · refine ai (r_icmp_ge_t (pc := 44) (tgt := 86) (by decide +kernel : decode k_P_turned.2.1 44 = .ok (.if_icmp .ge (42), 3)) (by decide) c1) ?_
      exact (ai (r_sub [0, 1, 2, 3] rfl) (P_turned_86_run hk26 hL h))
    · refine ai (r_icmp_ge_f (pc := 44) 86 (by decide +kernel : decode k_P_turned.2.1 44 = .ok (.if_icmp .ge (42), 3)) (by decide) c1) ?_
      refine ai (p_aload_n (pc := 47) (k := 0) (by decide +kernel : decode k_P_turned.2.1 47 = .ok (.aload_n 0, 1)) rfl rfl) ?_
      refine ai (p_getr (pc := 48) (PR_1413_0 hL) (by decide +kernel : decode k_P_turned.2.1 48 = .ok (.getfield 60, 3)) lg_11_60 (PC_0 hL).1) ?_
      refine ai (r_iload_n (pc := 51) (k := 3) (by decide +kernel : decode k_P_turned.2.1 51 = .ok (.iload_n 3, 1)) rfl rfl) ?_
      refine ai (r_iload (pc := 52) (k := 4) (by decide +kernel : decode k_P_turned.2.1 52 = .ok (.iload 4, 2)) rfl) ?_
      refine ai (r_iload_n (pc := 54) (k := 1) (by decide +kernel : decode k_P_turned.2.1 54 = .ok (.iload_n 1, 1)) rfl rfl) ?_
      obtain ⟨r2, m3, hr2, h⟩ := bn_some h
      have q4 := P_Reckoning_weekPay_run hL hr2
      have c5 := (PC_28 hL).1
      have hL := q4.2
      refine ai (q_callV (pc := 55) (As := [.int x3, .int x4, .int x1]) (st := []) (st2 := [.int r2]) (b := 28) rfl rfl (by decide +kernel : decode k_P_turned.2.1 55 = .ok (.invokevirtual 309, 3)) lc_11_309 mo_P_Reckoning_weekPay ⟨Nat.le_of_ble_eq_true rfl, Nat.le_of_ble_eq_true rfl⟩ (Nat.le_of_ble_eq_true rfl) (Nat.le_of_ble_eq_true rfl) c5 q4.1) ?_
      refine ai (p_aload_n (pc := 58) (k := 0) (by decide +kernel : decode k_P_turned.2.1 58 = .ok (.aload_n 0, 1)) rfl rfl) ?_
      refine ai (p_getr (pc := 59) (PR_1413_0 hL) (by decide +kernel : decode k_P_turned.2.1 59 = .ok (.getfield 60, 3)) lg_11_60 (PC_0 hL).1) ?_
      refine ai (r_iload_n (pc := 62) (k := 3) (by decide +kernel : decode k_P_turned.2.1 62 = .ok (.iload_n 3, 1)) rfl rfl) ?_
      refine ai (r_iload (pc := 63) (k := 4) (by decide +kernel : decode k_P_turned.2.1 63 = .ok (.iload 4, 2)) rfl) ?_
      refine ai (r_iload_n (pc := 65) (k := 2) (by decide +kernel : decode k_P_turned.2.1 65 = .ok (.iload_n 2, 1)) rfl rfl) ?_
      obtain ⟨r6, m7, hr6, h⟩ := bn_some h
      have q8 := P_Reckoning_weekPay_run hL hr6
      have c9 := (PC_28 hL).1
      have hL := q8.2
      refine ai (q_callV (pc := 66) (As := [.int x3, .int x4, .int x2]) (st := [.int r2]) (st2 := [.int r6, .int r2]) (b := 28) rfl rfl (by decide +kernel : decode k_P_turned.2.1 66 = .ok (.invokevirtual 309, 3)) lc_11_309 mo_P_Reckoning_weekPay ⟨Nat.le_of_ble_eq_true rfl, Nat.le_of_ble_eq_true rfl⟩ (Nat.le_of_ble_eq_true rfl) (Nat.le_of_ble_eq_true rfl) c9 q8.1) ?_
      rcases ite_some h with ⟨c10, h⟩ | ⟨c10, h⟩
      · refine ai (r_icmp_eq_t (pc := 69) (tgt := 80) (by decide +kernel : decode k_P_turned.2.1 69 = .ok (.if_icmp .eq (11), 3)) (by decide) c10) ?_
        obtain ⟨v11, hv11, h⟩ := vb_some h
        refine ai (e_iinc (pc := 80) (k := 4) hv11 ic_1 (by decide +kernel : decode k_P_turned.2.1 80 = .ok (.iinc 4 (1), 3)) rfl (by decide) rfl (ls2 := [(4, .int v11), (0, .ref 0), (1, .int x1), (2, .int x2), (3, .int x3)]) (i := 4)) ?_
        refine ai (r_goto (pc := 83) (tgt := 40) (by decide +kernel : decode k_P_turned.2.1 83 = .ok (.goto (-43), 3)) (by decide)) ?_
        exact (ai (r_sub [1, 2, 3, 4, 0] rfl) (ih hL h))
      · refine ai (r_icmp_eq_f (pc := 69) 80 (by decide +kernel : decode k_P_turned.2.1 69 = .ok (.if_icmp .eq (11), 3)) (by decide) c10) ?_
        exact (ai (r_sub [3, 4] rfl) (P_turned_72_run hL h))
set_option maxRecDepth 100000 in
set_option maxHeartbeats 4000000 in
theorem P_turned_26_run {n : Nat} {x1 : Int32} {x2 : Int32} {x3 : Int32} {m m' : Mem} {r : Int32} (hL : PL m) (h : P_turned_26 n x1 x2 x3 m = some (r, m')) : Run k_P_turned 26 [(0, .ref 0), (1, .int x1), (2, .int x2), (3, .int x3)] [] m (some (.int r)) m' ∧ PL m' := by
  induction n generalizing x1 x2 x3 m r m' with
  | zero => exact absurd h (by simp [P_turned_26])
  | succ n ih =>
    rw [P_turned_26.eq_2] at h
    refine ai (r_iload_n (pc := 26) (k := 3) (by decide +kernel : decode k_P_turned.2.1 26 = .ok (.iload_n 3, 1)) rfl rfl) ?_
    refine ai (p_aload_n (pc := 27) (k := 0) (by decide +kernel : decode k_P_turned.2.1 27 = .ok (.aload_n 0, 1)) rfl rfl) ?_
    refine ai (p_getr (pc := 28) (PR_1408_0 hL) (by decide +kernel : decode k_P_turned.2.1 28 = .ok (.getfield 19, 3)) lg_11_19 (PC_0 hL).1) ?_
    refine ai (r_getI (pc := 31) (by decide +kernel : decode k_P_turned.2.1 31 = .ok (.getfield 333, 3)) lg_11_333 (by decide) (PC_5 hL).1) ?_
    rcases ite_some h with ⟨c1, h⟩ | ⟨c1, h⟩
    · refine ai (r_icmp_ge_t (pc := 34) (tgt := 92) (by decide +kernel : decode k_P_turned.2.1 34 = .ok (.if_icmp .ge (58), 3)) (by decide) c1) ?_
      refine ai (r_iconst (pc := 92) (by decide +kernel : decode k_P_turned.2.1 92 = .ok (.iconst (-1), 1)) ic_m1) ?_
      cases h
      exact ⟨r_iret rfl (by decide +kernel : decode k_P_turned.2.1 93 = .ok (.ireturn, 1)), hL⟩
    · refine ai (r_icmp_ge_f (pc := 34) 92 (by decide +kernel : decode k_P_turned.2.1 34 = .ok (.if_icmp .ge (58), 3)) (by decide) c1) ?_
      refine ai (r_iconst (pc := 37) (by decide +kernel : decode k_P_turned.2.1 37 = .ok (.iconst 0, 1)) ic_0) ?_
      refine ai (e_istore (pc := 38) rfl (by decide +kernel : decode k_P_turned.2.1 38 = .ok (.istore 4, 2)) (by decide) rfl (ls2 := [(4, .int 0), (0, .ref 0), (1, .int x1), (2, .int x2), (3, .int x3)]) (i := 4)) ?_
      exact (ai (r_sub [1, 2, 3, 4, 0] rfl) (P_turned_40_run (fun _ _ _ _ _ _ q1 q3 => ih q1 q3) hL h))
set_option maxRecDepth 100000 in
set_option maxHeartbeats 4000000 in
theorem P_turned_run {x1 : Int32} {x2 : Int32} {m m' : Mem} {r : Int32} (hL : PL m) (h : P_turned x1 x2 m = some (r, m')) : Run k_P_turned 0 [(0, .ref 0), (1, .int x1), (2, .int x2)] [] m (some (.int r)) m' ∧ PL m' := by
  unfold P_turned at h
  refine ai (p_aload_n (pc := 0) (k := 0) (by decide +kernel : decode k_P_turned.2.1 0 = .ok (.aload_n 0, 1)) rfl rfl) ?_
  refine ai (p_getr (pc := 1) (PR_1409_0 hL) (by decide +kernel : decode k_P_turned.2.1 1 = .ok (.getfield 26, 3)) lg_11_26 (PC_0 hL).1) ?_
  refine ai (r_iload_n (pc := 4) (k := 1) (by decide +kernel : decode k_P_turned.2.1 4 = .ok (.iload_n 1, 1)) rfl rfl) ?_
  obtain ⟨r1, m2, hr1, h⟩ := bn_some h
  have q3 := P_Ledger_canKnow_run hL hr1
  have c4 := (PC_13 hL).1
  have hL := q3.2
  refine ai (q_callV (pc := 5) (As := [.int x1]) (st := []) (st2 := [.int r1]) (b := 13) rfl rfl (by decide +kernel : decode k_P_turned.2.1 5 = .ok (.invokevirtual 189, 3)) lc_11_189 mo_P_Ledger_canKnow ⟨Nat.le_of_ble_eq_true rfl, Nat.le_of_ble_eq_true rfl⟩ (Nat.le_of_ble_eq_true rfl) (Nat.le_of_ble_eq_true rfl) c4 q3.1) ?_
  rcases ite_some h with ⟨c5, h⟩ | ⟨c5, h⟩
  · refine ai (r_if_eq_t (pc := 8) (tgt := 22) (by decide +kernel : decode k_P_turned.2.1 8 = .ok (.ifCond .eq (14), 3)) (by decide) c5) ?_
    refine ai (r_iconst (pc := 22) (by decide +kernel : decode k_P_turned.2.1 22 = .ok (.iconst (-1), 1)) ic_m1) ?_
    cases h
    exact ⟨r_iret rfl (by decide +kernel : decode k_P_turned.2.1 23 = .ok (.ireturn, 1)), hL⟩
  · refine ai (r_if_eq_f (pc := 8) 22 (by decide +kernel : decode k_P_turned.2.1 8 = .ok (.ifCond .eq (14), 3)) (by decide) c5) ?_
    refine ai (p_aload_n (pc := 11) (k := 0) (by decide +kernel : decode k_P_turned.2.1 11 = .ok (.aload_n 0, 1)) rfl rfl) ?_
    refine ai (p_getr (pc := 12) (PR_1409_0 hL) (by decide +kernel : decode k_P_turned.2.1 12 = .ok (.getfield 26, 3)) lg_11_26 (PC_0 hL).1) ?_
    refine ai (r_iload_n (pc := 15) (k := 2) (by decide +kernel : decode k_P_turned.2.1 15 = .ok (.iload_n 2, 1)) rfl rfl) ?_
    obtain ⟨r6, m7, hr6, h⟩ := bn_some h
    have q8 := P_Ledger_canKnow_run hL hr6
    have c9 := (PC_13 hL).1
    have hL := q8.2
    refine ai (q_callV (pc := 16) (As := [.int x2]) (st := []) (st2 := [.int r6]) (b := 13) rfl rfl (by decide +kernel : decode k_P_turned.2.1 16 = .ok (.invokevirtual 189, 3)) lc_11_189 mo_P_Ledger_canKnow ⟨Nat.le_of_ble_eq_true rfl, Nat.le_of_ble_eq_true rfl⟩ (Nat.le_of_ble_eq_true rfl) (Nat.le_of_ble_eq_true rfl) c9 q8.1) ?_
    rcases ite_some h with ⟨c10, h⟩ | ⟨c10, h⟩
    · refine ai (r_if_ne_f (pc := 19) 24 (by decide +kernel : decode k_P_turned.2.1 19 = .ok (.ifCond .ne (5), 3)) (by decide) c10) ?_
      refine ai (r_iconst (pc := 22) (by decide +kernel : decode k_P_turned.2.1 22 = .ok (.iconst (-1), 1)) ic_m1) ?_
      cases h
      exact ⟨r_iret rfl (by decide +kernel : decode k_P_turned.2.1 23 = .ok (.ireturn, 1)), hL⟩
    · refine ai (r_if_ne_t (pc := 19) (tgt := 24) (by decide +kernel : decode k_P_turned.2.1 19 = .ok (.ifCond .ne (5), 3)) (by decide) c10) ?_
      refine ai (r_iconst (pc := 24) (by decide +kernel : decode k_P_turned.2.1 24 = .ok (.iconst 0, 1)) ic_0) ?_
      refine ai (e_istore_n (pc := 25) rfl (by decide +kernel : decode k_P_turned.2.1 25 = .ok (.istore_n 3, 1)) rfl (by decide) rfl (ls2 := [(3, .int 0), (0, .ref 0), (1, .int x1), (2, .int x2)]) (i := 3)) ?_
      exact (ai (r_sub [1, 2, 3, 0] rfl) (P_turned_26_run hL h))
set_option maxRecDepth 100000 in
set_option maxHeartbeats 4000000 in
theorem P_count_run {x1 : Int32} {m m' : Mem} {r : Int32} (hL : PL m) (h : P_count x1 m = some (r, m')) : Run k_P_count 0 [(0, .ref 0), (1, .int x1)] [] m (some (.int r)) m' ∧ PL m' := by
  unfold P_count at h
  refine ai (r_iload_n (pc := 0) (k := 1) (by decide +kernel : decode k_P_count.2.1 0 = .ok (.iload_n 1, 1)) rfl rfl) ?_
  rcases ite_some h with ⟨c1, h⟩ | ⟨c1, h⟩
  · refine ai (r_tableIn (pc := 1) (tgt := 44) (off := 43) (by decide +kernel : decode k_P_count.2.1 1 = .ok (.tableswitch (99) (0) (6) #[43, 51, 59, 67, 75, 83, 91], 43)) (by rw [c1]; decide) (by rw [c1]; decide) (by rw [c1]; decide +kernel) (by decide)) ?_
    refine ai (p_aload_n (pc := 44) (k := 0) (by decide +kernel : decode k_P_count.2.1 44 = .ok (.aload_n 0, 1)) rfl rfl) ?_
    refine ai (p_getr (pc := 45) (PR_1408_0 hL) (by decide +kernel : decode k_P_count.2.1 45 = .ok (.getfield 19, 3)) lg_11_19 (PC_0 hL).1) ?_
    refine ai (r_getI (pc := 48) (by decide +kernel : decode k_P_count.2.1 48 = .ok (.getfield 110, 3)) lg_11_110 (by decide) (PC_5 hL).1) ?_
    cases h
    exact ⟨r_iret rfl (by decide +kernel : decode k_P_count.2.1 51 = .ok (.ireturn, 1)), hL⟩
  · skip
    rcases ite_some h with ⟨c2, h⟩ | ⟨c2, h⟩
    · refine ai (r_tableIn (pc := 1) (tgt := 52) (off := 51) (by decide +kernel : decode k_P_count.2.1 1 = .ok (.tableswitch (99) (0) (6) #[43, 51, 59, 67, 75, 83, 91], 43)) (by rw [c2]; decide) (by rw [c2]; decide) (by rw [c2]; decide +kernel) (by decide)) ?_
      refine ai (p_aload_n (pc := 52) (k := 0) (by decide +kernel : decode k_P_count.2.1 52 = .ok (.aload_n 0, 1)) rfl rfl) ?_
      refine ai (p_getr (pc := 53) (PR_1408_0 hL) (by decide +kernel : decode k_P_count.2.1 53 = .ok (.getfield 19, 3)) lg_11_19 (PC_0 hL).1) ?_
      refine ai (r_getI (pc := 56) (by decide +kernel : decode k_P_count.2.1 56 = .ok (.getfield 361, 3)) lg_11_361 (by decide) (PC_5 hL).1) ?_
      cases h
      exact ⟨r_iret rfl (by decide +kernel : decode k_P_count.2.1 59 = .ok (.ireturn, 1)), hL⟩
    · skip
      rcases ite_some h with ⟨c3, h⟩ | ⟨c3, h⟩
      · refine ai (r_tableIn (pc := 1) (tgt := 60) (off := 59) (by decide +kernel : decode k_P_count.2.1 1 = .ok (.tableswitch (99) (0) (6) #[43, 51, 59, 67, 75, 83, 91], 43)) (by rw [c3]; decide) (by rw [c3]; decide) (by rw [c3]; decide +kernel) (by decide)) ?_
        refine ai (p_aload_n (pc := 60) (k := 0) (by decide +kernel : decode k_P_count.2.1 60 = .ok (.aload_n 0, 1)) rfl rfl) ?_
        refine ai (p_getr (pc := 61) (PR_1408_0 hL) (by decide +kernel : decode k_P_count.2.1 61 = .ok (.getfield 19, 3)) lg_11_19 (PC_0 hL).1) ?_
        refine ai (r_getI (pc := 64) (by decide +kernel : decode k_P_count.2.1 64 = .ok (.getfield 333, 3)) lg_11_333 (by decide) (PC_5 hL).1) ?_
        cases h
        exact ⟨r_iret rfl (by decide +kernel : decode k_P_count.2.1 67 = .ok (.ireturn, 1)), hL⟩
      · skip
        rcases ite_some h with ⟨c4, h⟩ | ⟨c4, h⟩
        · refine ai (r_tableIn (pc := 1) (tgt := 68) (off := 67) (by decide +kernel : decode k_P_count.2.1 1 = .ok (.tableswitch (99) (0) (6) #[43, 51, 59, 67, 75, 83, 91], 43)) (by rw [c4]; decide) (by rw [c4]; decide) (by rw [c4]; decide +kernel) (by decide)) ?_
          refine ai (p_aload_n (pc := 68) (k := 0) (by decide +kernel : decode k_P_count.2.1 68 = .ok (.aload_n 0, 1)) rfl rfl) ?_
          refine ai (p_getr (pc := 69) (PR_1409_0 hL) (by decide +kernel : decode k_P_count.2.1 69 = .ok (.getfield 26, 3)) lg_11_26 (PC_0 hL).1) ?_
          refine ai (r_getI (pc := 72) (by decide +kernel : decode k_P_count.2.1 72 = .ok (.getfield 78, 3)) lg_11_78 (by decide) (PC_13 hL).1) ?_
          cases h
          exact ⟨r_iret rfl (by decide +kernel : decode k_P_count.2.1 75 = .ok (.ireturn, 1)), hL⟩
        · skip
          rcases ite_some h with ⟨c5, h⟩ | ⟨c5, h⟩
          · refine ai (r_tableIn (pc := 1) (tgt := 76) (off := 75) (by decide +kernel : decode k_P_count.2.1 1 = .ok (.tableswitch (99) (0) (6) #[43, 51, 59, 67, 75, 83, 91], 43)) (by rw [c5]; decide) (by rw [c5]; decide) (by rw [c5]; decide +kernel) (by decide)) ?_
            refine ai (p_aload_n (pc := 76) (k := 0) (by decide +kernel : decode k_P_count.2.1 76 = .ok (.aload_n 0, 1)) rfl rfl) ?_
            refine ai (p_getr (pc := 77) (PR_1409_0 hL) (by decide +kernel : decode k_P_count.2.1 77 = .ok (.getfield 26, 3)) lg_11_26 (PC_0 hL).1) ?_
            refine ai (r_getI (pc := 80) (by decide +kernel : decode k_P_count.2.1 80 = .ok (.getfield 81, 3)) lg_11_81 (by decide) (PC_13 hL).1) ?_
            cases h
            exact ⟨r_iret rfl (by decide +kernel : decode k_P_count.2.1 83 = .ok (.ireturn, 1)), hL⟩
          · skip
            rcases ite_some h with ⟨c6, h⟩ | ⟨c6, h⟩
            · refine ai (r_tableIn (pc := 1) (tgt := 84) (off := 83) (by decide +kernel : decode k_P_count.2.1 1 = .ok (.tableswitch (99) (0) (6) #[43, 51, 59, 67, 75, 83, 91], 43)) (by rw [c6]; decide) (by rw [c6]; decide) (by rw [c6]; decide +kernel) (by decide)) ?_
              refine ai (p_aload_n (pc := 84) (k := 0) (by decide +kernel : decode k_P_count.2.1 84 = .ok (.aload_n 0, 1)) rfl rfl) ?_
              refine ai (p_getr (pc := 85) (PR_1411_0 hL) (by decide +kernel : decode k_P_count.2.1 85 = .ok (.getfield 42, 3)) lg_11_42 (PC_0 hL).1) ?_
              refine ai (r_getI (pc := 88) (by decide +kernel : decode k_P_count.2.1 88 = .ok (.getfield 364, 3)) lg_11_364 (by decide) (PC_22 hL).1) ?_
              cases h
              exact ⟨r_iret rfl (by decide +kernel : decode k_P_count.2.1 91 = .ok (.ireturn, 1)), hL⟩
            · skip
              rcases ite_some h with ⟨c7, h⟩ | ⟨c7, h⟩
              · refine ai (r_tableIn (pc := 1) (tgt := 92) (off := 91) (by decide +kernel : decode k_P_count.2.1 1 = .ok (.tableswitch (99) (0) (6) #[43, 51, 59, 67, 75, 83, 91], 43)) (by rw [c7]; decide) (by rw [c7]; decide) (by rw [c7]; decide +kernel) (by decide)) ?_
                refine ai (p_aload_n (pc := 92) (k := 0) (by decide +kernel : decode k_P_count.2.1 92 = .ok (.aload_n 0, 1)) rfl rfl) ?_
                refine ai (p_getr (pc := 93) (PR_1410_0 hL) (by decide +kernel : decode k_P_count.2.1 93 = .ok (.getfield 33, 3)) lg_11_33 (PC_0 hL).1) ?_
                refine ai (r_getI (pc := 96) (by decide +kernel : decode k_P_count.2.1 96 = .ok (.getfield 71, 3)) lg_11_71 (by decide) (PC_16 hL).1) ?_
                cases h
                exact ⟨r_iret rfl (by decide +kernel : decode k_P_count.2.1 99 = .ok (.ireturn, 1)), hL⟩
              · skip
                have ho := tab_out (x := x1) 0 7 (by decide) (by decide) (fun k hk => by
                  rcases (show k = 0 ∨ k = 1 ∨ k = 2 ∨ k = 3 ∨ k = 4 ∨ k = 5 ∨ k = 6 by omega) with rfl | rfl | rfl | rfl | rfl | rfl | rfl
                  · exact fun z => c1 (z.trans (by decide))
                  · exact fun z => c2 (z.trans (by decide))
                  · exact fun z => c3 (z.trans (by decide))
                  · exact fun z => c4 (z.trans (by decide))
                  · exact fun z => c5 (z.trans (by decide))
                  · exact fun z => c6 (z.trans (by decide))
                  · exact fun z => c7 (z.trans (by decide)))
                refine ai (r_tableOut (pc := 1) (tgt := 100) (by decide +kernel : decode k_P_count.2.1 1 = .ok (.tableswitch (99) (0) (6) #[43, 51, 59, 67, 75, 83, 91], 43)) (by simpa using ho) (by decide)) ?_
                refine ai (r_iconst (pc := 100) (by decide +kernel : decode k_P_count.2.1 100 = .ok (.iconst (-1), 1)) ic_m1) ?_
                cases h
                exact ⟨r_iret rfl (by decide +kernel : decode k_P_count.2.1 101 = .ok (.ireturn, 1)), hL⟩

