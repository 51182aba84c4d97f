/-! written by gen/emit.py -/
set_option maxRecDepth 100000 in
set_option maxHeartbeats 4000000 in
theorem P_Lexer_write_3_run {n : Nat} {x1 : Int32} {x2 : Int32} {m m' : Mem} {r : Unit} (hL : PL m) (h : P_Lexer_write_3 n x1 x2 m = some (r, m')) : Run k_P_Lexer_write 3 [(0, .ref 16), (1, .int x1), (2, .int x2)] [] m none m' ∧ PL m' := by
  induction n generalizing x1 x2 m r m' with
  | zero => exact absurd h (by simp [P_Lexer_write_3])
  | succ n ih =>
    rw [P_Lexer_write_3.eq_2] at h
    refine ai (r_iload_n (pc := 3) (k := 2) (by decide +kernel : decode k_P_Lexer_write.2.1 3 = .ok (.iload_n 2, 1)) rfl rfl) ?_
    rcases ite_some h with ⟨c1, h⟩ | ⟨c1, h⟩
    · refine ai (r_if_lt_t (pc := 4) (tgt := 49) (by decide +kernel : decode k_P_Lexer_write.2.1 4 = .ok (.ifCond .lt (45), 3)) (by decide) c1) ?_
      cases h
      exact ⟨r_vret rfl (by decide +kernel : decode k_P_Lexer_write.2.1 49 = .ok (.return_, 1)), hL⟩
    · refine ai (r_if_lt_f (pc := 4) 49 (by decide +kernel : decode k_P_Lexer_write.2.1 4 = .ok (.ifCond .lt (45), 3)) (by decide) c1) ?_
      refine ai (p_aload_n (pc := 7) (k := 0) (by decide +kernel : decode k_P_Lexer_write.2.1 7 = .ok (.aload_n 0, 1)) rfl rfl) ?_
      refine ai (r_getI (pc := 8) (by decide +kernel : decode k_P_Lexer_write.2.1 8 = .ok (.getfield 56, 3)) lg_5_56 (by decide) (PC_16 hL).1) ?_
      refine ai (r_sipush (pc := 11) (by decide +kernel : decode k_P_Lexer_write.2.1 11 = .ok (.sipush (2000), 3)) (by decide : _ = (2000 : Int32))) ?_
      rcases ite_some h with ⟨c2, h⟩ | ⟨c2, h⟩
      · refine ai (r_icmp_ge_t (pc := 14) (tgt := 49) (by decide +kernel : decode k_P_Lexer_write.2.1 14 = .ok (.if_icmp .ge (35), 3)) (by decide) c2) ?_
        cases h
        exact ⟨r_vret rfl (by decide +kernel : decode k_P_Lexer_write.2.1 49 = .ok (.return_, 1)), hL⟩
      · refine ai (r_icmp_ge_f (pc := 14) 49 (by decide +kernel : decode k_P_Lexer_write.2.1 14 = .ok (.if_icmp .ge (35), 3)) (by decide) c2) ?_
        refine ai (p_aload_n (pc := 17) (k := 0) (by decide +kernel : decode k_P_Lexer_write.2.1 17 = .ok (.aload_n 0, 1)) rfl rfl) ?_
        refine ai (p_getr (pc := 18) (PR_640_16 hL) (by decide +kernel : decode k_P_Lexer_write.2.1 18 = .ok (.getfield 9, 3)) lg_5_9 (PC_16 hL).1) ?_
        refine ai (p_aload_n (pc := 21) (k := 0) (by decide +kernel : decode k_P_Lexer_write.2.1 21 = .ok (.aload_n 0, 1)) rfl rfl) ?_
        refine ai (r_getI (pc := 22) (by decide +kernel : decode k_P_Lexer_write.2.1 22 = .ok (.getfield 56, 3)) lg_5_56 (by decide) (PC_16 hL).1) ?_
        refine ai (r_iload_n (pc := 25) (k := 1) (by decide +kernel : decode k_P_Lexer_write.2.1 25 = .ok (.iload_n 1, 1)) rfl rfl) ?_
        refine ai (r_iload_n (pc := 26) (k := 2) (by decide +kernel : decode k_P_Lexer_write.2.1 26 = .ok (.iload_n 2, 1)) rfl rfl) ?_
        refine ai (r_ishr (pc := 27) (by decide +kernel : decode k_P_Lexer_write.2.1 27 = .ok (.ishr, 1))) ?_
        refine ai (r_sipush (pc := 28) (by decide +kernel : decode k_P_Lexer_write.2.1 28 = .ok (.sipush (255), 3)) (by decide : _ = (255 : Int32))) ?_
        refine ai (r_iand (pc := 31) (by decide +kernel : decode k_P_Lexer_write.2.1 31 = .ok (.iand, 1))) ?_
        obtain ⟨g3, h⟩ := gd_some h
        have c4 := (PC_17 hL).1
        have c5 := (PC_17 hL).2
        obtain ⟨m6, hm6, h⟩ := vb_some h
        have hL : PL m6 := by rw [hm6]; exact hL
        refine ai (p_iast (pc := 32) hm6 (by decide +kernel : decode k_P_Lexer_write.2.1 32 = .ok (.iastore, 1)) c4 c5 g3) ?_
        refine ai (p_aload_n (pc := 33) (k := 0) (by decide +kernel : decode k_P_Lexer_write.2.1 33 = .ok (.aload_n 0, 1)) rfl rfl) ?_
        refine ai (r_dup (pc := 34) (by decide +kernel : decode k_P_Lexer_write.2.1 34 = .ok (.dup, 1)) (rfl)) ?_
        refine ai (r_getI (pc := 35) (by decide +kernel : decode k_P_Lexer_write.2.1 35 = .ok (.getfield 56, 3)) lg_5_56 (by decide) (PC_16 hL).1) ?_
        refine ai (r_iconst (pc := 38) (by decide +kernel : decode k_P_Lexer_write.2.1 38 = .ok (.iconst 1, 1)) ic_1) ?_
        refine ai (r_iadd (pc := 39) (by decide +kernel : decode k_P_Lexer_write.2.1 39 = .ok (.iadd, 1))) ?_
        have c7 := (PC_16 hL).1
        obtain ⟨m8, hm8, h⟩ := vb_some h
        have hL : PL m8 := by rw [hm8]; exact hL
        refine ai (p_putI (pc := 40) hm8 (by decide +kernel : decode k_P_Lexer_write.2.1 40 = .ok (.putfield 56, 3)) lp_5_56 c7) ?_
        obtain ⟨v9, hv9, h⟩ := vb_some h
        refine ai (e_iinc (pc := 43) (k := 2) hv9 ic_m8 (by decide +kernel : decode k_P_Lexer_write.2.1 43 = .ok (.iinc 2 (-8), 3)) rfl (by decide) rfl) ?_
        refine ai (r_goto (pc := 46) (tgt := 3) (by decide +kernel : decode k_P_Lexer_write.2.1 46 = .ok (.goto (-43), 3)) (by decide)) ?_
        exact (ai (r_sub [1, 2, 0] rfl) (ih hL h))
set_option maxRecDepth 100000 in
set_option maxHeartbeats 4000000 in
theorem P_Lexer_write_run {x1 : Int32} {m m' : Mem} {r : Unit} (hL : PL m) (h : P_Lexer_write x1 m = some (r, m')) : Run k_P_Lexer_write 0 [(0, .ref 16), (1, .int x1)] [] m none m' ∧ PL m' := by
  unfold P_Lexer_write at h
  refine ai (r_bipush (pc := 0) (by decide +kernel : decode k_P_Lexer_write.2.1 0 = .ok (.bipush (24), 2)) (by decide : _ = (24 : Int32))) ?_
  refine ai (e_istore_n (pc := 2) rfl (by decide +kernel : decode k_P_Lexer_write.2.1 2 = .ok (.istore_n 2, 1)) rfl (by decide) rfl) ?_
  exact (ai (r_sub [1, 2, 0] rfl) (P_Lexer_write_3_run hL h))
set_option maxRecDepth 100000 in
set_option maxHeartbeats 4000000 in
theorem P_feed_run {x1 : Int32} {x2 : Int32} {x3 : Int32} {x4 : Int32} {x5 : Int32} {m m' : Mem} {r : Int32} (hL : PL m) (h : P_feed x1 x2 x3 x4 x5 m = some (r, m')) : Run k_P_feed 0 [(0, .ref 0), (1, .int x1), (2, .int x2), (3, .int x3), (4, .int x4), (5, .int x5)] [] m (some (.int r)) m' ∧ PL m' := by
  unfold P_feed at h
  refine ai (p_aload_n (pc := 0) (k := 0) (by decide +kernel : decode k_P_feed.2.1 0 = .ok (.aload_n 0, 1)) rfl rfl) ?_
  refine ai (p_getr (pc := 1) (PR_1410_0 hL) (by decide +kernel : decode k_P_feed.2.1 1 = .ok (.getfield 33, 3)) lg_11_33 (PC_0 hL).1) ?_
  refine ai (r_getI (pc := 4) (by decide +kernel : decode k_P_feed.2.1 4 = .ok (.getfield 71, 3)) lg_11_71 (by decide) (PC_16 hL).1) ?_
  refine ai (r_bipush (pc := 7) (by decide +kernel : decode k_P_feed.2.1 7 = .ok (.bipush (20), 2)) (by decide : _ = (20 : Int32))) ?_
  refine ai (r_iadd (pc := 9) (by decide +kernel : decode k_P_feed.2.1 9 = .ok (.iadd, 1))) ?_
  refine ai (r_sipush (pc := 10) (by decide +kernel : decode k_P_feed.2.1 10 = .ok (.sipush (2000), 3)) (by decide : _ = (2000 : Int32))) ?_
  rcases ite_some h with ⟨c1, h⟩ | ⟨c1, h⟩
  · refine ai (r_icmp_le_t (pc := 13) (tgt := 18) (by decide +kernel : decode k_P_feed.2.1 13 = .ok (.if_icmp .le (5), 3)) (by decide) c1) ?_
    refine ai (p_aload_n (pc := 18) (k := 0) (by decide +kernel : decode k_P_feed.2.1 18 = .ok (.aload_n 0, 1)) rfl rfl) ?_
    refine ai (p_getr (pc := 19) (PR_1410_0 hL) (by decide +kernel : decode k_P_feed.2.1 19 = .ok (.getfield 33, 3)) lg_11_33 (PC_0 hL).1) ?_
    refine ai (r_iload_n (pc := 22) (k := 1) (by decide +kernel : decode k_P_feed.2.1 22 = .ok (.iload_n 1, 1)) rfl rfl) ?_
    obtain ⟨r2, m3, hr2, h⟩ := bn_some h
    have q4 := P_Lexer_write_run hL hr2
    have c5 := (PC_16 hL).1
    have hL := q4.2
    refine ai (q_callV (pc := 23) (As := [.int x1]) (st := []) (st2 := []) (b := 16) rfl rfl (by decide +kernel : decode k_P_feed.2.1 23 = .ok (.invokevirtual 74, 3)) lc_11_74 mo_P_Lexer_write ⟨Nat.le_of_ble_eq_true rfl, Nat.le_of_ble_eq_true rfl⟩ (Nat.le_of_ble_eq_true rfl) (Nat.le_of_ble_eq_true rfl) c5 q4.1) ?_
    refine ai (p_aload_n (pc := 26) (k := 0) (by decide +kernel : decode k_P_feed.2.1 26 = .ok (.aload_n 0, 1)) rfl rfl) ?_
    refine ai (p_getr (pc := 27) (PR_1410_0 hL) (by decide +kernel : decode k_P_feed.2.1 27 = .ok (.getfield 33, 3)) lg_11_33 (PC_0 hL).1) ?_
    refine ai (r_iload_n (pc := 30) (k := 2) (by decide +kernel : decode k_P_feed.2.1 30 = .ok (.iload_n 2, 1)) rfl rfl) ?_
    obtain ⟨r6, m7, hr6, h⟩ := bn_some h
    have q8 := P_Lexer_write_run hL hr6
    have c9 := (PC_16 hL).1
    have hL := q8.2
    refine ai (q_callV (pc := 31) (As := [.int x2]) (st := []) (st2 := []) (b := 16) rfl rfl (by decide +kernel : decode k_P_feed.2.1 31 = .ok (.invokevirtual 74, 3)) lc_11_74 mo_P_Lexer_write ⟨Nat.le_of_ble_eq_true rfl, Nat.le_of_ble_eq_true rfl⟩ (Nat.le_of_ble_eq_true rfl) (Nat.le_of_ble_eq_true rfl) c9 q8.1) ?_
    refine ai (p_aload_n (pc := 34) (k := 0) (by decide +kernel : decode k_P_feed.2.1 34 = .ok (.aload_n 0, 1)) rfl rfl) ?_
    refine ai (p_getr (pc := 35) (PR_1410_0 hL) (by decide +kernel : decode k_P_feed.2.1 35 = .ok (.getfield 33, 3)) lg_11_33 (PC_0 hL).1) ?_
    refine ai (r_iload_n (pc := 38) (k := 3) (by decide +kernel : decode k_P_feed.2.1 38 = .ok (.iload_n 3, 1)) rfl rfl) ?_
    obtain ⟨r10, m11, hr10, h⟩ := bn_some h
    have q12 := P_Lexer_write_run hL hr10
    have c13 := (PC_16 hL).1
    have hL := q12.2
    refine ai (q_callV (pc := 39) (As := [.int x3]) (st := []) (st2 := []) (b := 16) rfl rfl (by decide +kernel : decode k_P_feed.2.1 39 = .ok (.invokevirtual 74, 3)) lc_11_74 mo_P_Lexer_write ⟨Nat.le_of_ble_eq_true rfl, Nat.le_of_ble_eq_true rfl⟩ (Nat.le_of_ble_eq_true rfl) (Nat.le_of_ble_eq_true rfl) c13 q12.1) ?_
    refine ai (p_aload_n (pc := 42) (k := 0) (by decide +kernel : decode k_P_feed.2.1 42 = .ok (.aload_n 0, 1)) rfl rfl) ?_
    refine ai (p_getr (pc := 43) (PR_1410_0 hL) (by decide +kernel : decode k_P_feed.2.1 43 = .ok (.getfield 33, 3)) lg_11_33 (PC_0 hL).1) ?_
    refine ai (r_iload (pc := 46) (k := 4) (by decide +kernel : decode k_P_feed.2.1 46 = .ok (.iload 4, 2)) rfl) ?_
    obtain ⟨r14, m15, hr14, h⟩ := bn_some h
    have q16 := P_Lexer_write_run hL hr14
    have c17 := (PC_16 hL).1
    have hL := q16.2
    refine ai (q_callV (pc := 48) (As := [.int x4]) (st := []) (st2 := []) (b := 16) rfl rfl (by decide +kernel : decode k_P_feed.2.1 48 = .ok (.invokevirtual 74, 3)) lc_11_74 mo_P_Lexer_write ⟨Nat.le_of_ble_eq_true rfl, Nat.le_of_ble_eq_true rfl⟩ (Nat.le_of_ble_eq_true rfl) (Nat.le_of_ble_eq_true rfl) c17 q16.1) ?_
    refine ai (p_aload_n (pc := 51) (k := 0) (by decide +kernel : decode k_P_feed.2.1 51 = .ok (.aload_n 0, 1)) rfl rfl) ?_
    refine ai (p_getr (pc := 52) (PR_1410_0 hL) (by decide +kernel : decode k_P_feed.2.1 52 = .ok (.getfield 33, 3)) lg_11_33 (PC_0 hL).1) ?_
    refine ai (r_iload (pc := 55) (k := 5) (by decide +kernel : decode k_P_feed.2.1 55 = .ok (.iload 5, 2)) rfl) ?_
    obtain ⟨r18, m19, hr18, h⟩ := bn_some h
    have q20 := P_Lexer_write_run hL hr18
    have c21 := (PC_16 hL).1
    have hL := q20.2
    refine ai (q_callV (pc := 57) (As := [.int x5]) (st := []) (st2 := []) (b := 16) rfl rfl (by decide +kernel : decode k_P_feed.2.1 57 = .ok (.invokevirtual 74, 3)) lc_11_74 mo_P_Lexer_write ⟨Nat.le_of_ble_eq_true rfl, Nat.le_of_ble_eq_true rfl⟩ (Nat.le_of_ble_eq_true rfl) (Nat.le_of_ble_eq_true rfl) c21 q20.1) ?_
    refine ai (p_aload_n (pc := 60) (k := 0) (by decide +kernel : decode k_P_feed.2.1 60 = .ok (.aload_n 0, 1)) rfl rfl) ?_
    refine ai (p_getr (pc := 61) (PR_1410_0 hL) (by decide +kernel : decode k_P_feed.2.1 61 = .ok (.getfield 33, 3)) lg_11_33 (PC_0 hL).1) ?_
    refine ai (r_getI (pc := 64) (by decide +kernel : decode k_P_feed.2.1 64 = .ok (.getfield 71, 3)) lg_11_71 (by decide) (PC_16 hL).1) ?_
    cases h
    exact ⟨r_iret rfl (by decide +kernel : decode k_P_feed.2.1 67 = .ok (.ireturn, 1)), hL⟩
  · refine ai (r_icmp_le_f (pc := 13) 18 (by decide +kernel : decode k_P_feed.2.1 13 = .ok (.if_icmp .le (5), 3)) (by decide) c1) ?_
    refine ai (r_iconst (pc := 16) (by decide +kernel : decode k_P_feed.2.1 16 = .ok (.iconst (-1), 1)) ic_m1) ?_
    cases h
    exact ⟨r_iret rfl (by decide +kernel : decode k_P_feed.2.1 17 = .ok (.ireturn, 1)), hL⟩
set_option maxRecDepth 100000 in
set_option maxHeartbeats 4000000 in
theorem P_back_run {x1 : Int32} {m m' : Mem} {r : Int32} (hL : PL m) (h : P_back x1 m = some (r, m')) : Run k_P_back 0 [(0, .ref 0), (1, .int x1)] [] m (some (.int r)) m' ∧ PL m' := by
  unfold P_back at h
  refine ai (r_iload_n (pc := 0) (k := 1) (by decide +kernel : decode k_P_back.2.1 0 = .ok (.iload_n 1, 1)) rfl rfl) ?_
  rcases ite_some h with ⟨c1, h⟩ | ⟨c1, h⟩
  · refine ai (r_if_lt_t (pc := 1) (tgt := 15) (by decide +kernel : decode k_P_back.2.1 1 = .ok (.ifCond .lt (14), 3)) (by decide) c1) ?_
    refine ai (r_iconst (pc := 15) (by decide +kernel : decode k_P_back.2.1 15 = .ok (.iconst (-1), 1)) ic_m1) ?_
    cases h
    exact ⟨r_iret rfl (by decide +kernel : decode k_P_back.2.1 16 = .ok (.ireturn, 1)), hL⟩
  · refine ai (r_if_lt_f (pc := 1) 15 (by decide +kernel : decode k_P_back.2.1 1 = .ok (.ifCond .lt (14), 3)) (by decide) c1) ?_
    refine ai (r_iload_n (pc := 4) (k := 1) (by decide +kernel : decode k_P_back.2.1 4 = .ok (.iload_n 1, 1)) rfl rfl) ?_
    refine ai (p_aload_n (pc := 5) (k := 0) (by decide +kernel : decode k_P_back.2.1 5 = .ok (.aload_n 0, 1)) rfl rfl) ?_
    refine ai (p_getr (pc := 6) (PR_1410_0 hL) (by decide +kernel : decode k_P_back.2.1 6 = .ok (.getfield 33, 3)) lg_11_33 (PC_0 hL).1) ?_
    refine ai (r_getI (pc := 9) (by decide +kernel : decode k_P_back.2.1 9 = .ok (.getfield 71, 3)) lg_11_71 (by decide) (PC_16 hL).1) ?_
    rcases ite_some h with ⟨c2, h⟩ | ⟨c2, h⟩
    · refine ai (r_icmp_le_t (pc := 12) (tgt := 17) (by decide +kernel : decode k_P_back.2.1 12 = .ok (.if_icmp .le (5), 3)) (by decide) c2) ?_
      refine ai (p_aload_n (pc := 17) (k := 0) (by decide +kernel : decode k_P_back.2.1 17 = .ok (.aload_n 0, 1)) rfl rfl) ?_
      refine ai (p_getr (pc := 18) (PR_1410_0 hL) (by decide +kernel : decode k_P_back.2.1 18 = .ok (.getfield 33, 3)) lg_11_33 (PC_0 hL).1) ?_
      refine ai (r_dup (pc := 21) (by decide +kernel : decode k_P_back.2.1 21 = .ok (.dup, 1)) (rfl)) ?_
      refine ai (r_getI (pc := 22) (by decide +kernel : decode k_P_back.2.1 22 = .ok (.getfield 71, 3)) lg_11_71 (by decide) (PC_16 hL).1) ?_
      refine ai (r_iload_n (pc := 25) (k := 1) (by decide +kernel : decode k_P_back.2.1 25 = .ok (.iload_n 1, 1)) rfl rfl) ?_
      refine ai (r_isub (pc := 26) (by decide +kernel : decode k_P_back.2.1 26 = .ok (.isub, 1))) ?_
      have c3 := (PC_16 hL).1
      obtain ⟨m4, hm4, h⟩ := vb_some h
      have hL : PL m4 := by rw [hm4]; exact hL
      refine ai (p_putI (pc := 27) hm4 (by decide +kernel : decode k_P_back.2.1 27 = .ok (.putfield 71, 3)) lp_11_71 c3) ?_
      refine ai (p_aload_n (pc := 30) (k := 0) (by decide +kernel : decode k_P_back.2.1 30 = .ok (.aload_n 0, 1)) rfl rfl) ?_
      refine ai (p_getr (pc := 31) (PR_1410_0 hL) (by decide +kernel : decode k_P_back.2.1 31 = .ok (.getfield 33, 3)) lg_11_33 (PC_0 hL).1) ?_
      refine ai (r_getI (pc := 34) (by decide +kernel : decode k_P_back.2.1 34 = .ok (.getfield 71, 3)) lg_11_71 (by decide) (PC_16 hL).1) ?_
      cases h
      exact ⟨r_iret rfl (by decide +kernel : decode k_P_back.2.1 37 = .ok (.ireturn, 1)), hL⟩
    · refine ai (r_icmp_le_f (pc := 12) 17 (by decide +kernel : decode k_P_back.2.1 12 = .ok (.if_icmp .le (5), 3)) (by decide) c2) ?_
      refine ai (r_iconst (pc := 15) (by decide +kernel : decode k_P_back.2.1 15 = .ok (.iconst (-1), 1)) ic_m1) ?_
      cases h
      exact ⟨r_iret rfl (by decide +kernel : decode k_P_back.2.1 16 = .ok (.ireturn, 1)), hL⟩
set_option maxRecDepth 100000 in
set_option maxHeartbeats 4000000 in
theorem P_Lexer_wordKind_22_run {x3 : Int32} {m m' : Mem} {r : Int32} (hL : PL m) (h : P_Lexer_wordKind_22 x3 m = some (r, m')) : Run k_P_Lexer_wordKind 22 [(3, .int x3)] [] m (some (.int r)) m' ∧ PL m' := by
  unfold P_Lexer_wordKind_22 at h
  refine ai (r_bipush (pc := 22) (by decide +kernel : decode k_P_Lexer_wordKind.2.1 22 = .ok (.bipush (20), 2)) (by decide : _ = (20 : Int32))) ?_
  refine ai (r_iload_n (pc := 24) (k := 0) (by decide +kernel : decode k_P_Lexer_wordKind.2.1 24 = .ok (.iload_n 3, 1)) rfl rfl) ?_
  refine ai (r_iadd (pc := 25) (by decide +kernel : decode k_P_Lexer_wordKind.2.1 25 = .ok (.iadd, 1))) ?_
  cases h
  exact ⟨r_iret rfl (by decide +kernel : decode k_P_Lexer_wordKind.2.1 26 = .ok (.ireturn, 1)), hL⟩
set_option maxRecDepth 100000 in
set_option maxHeartbeats 4000000 in
theorem P_Lexer_wordKind_2_run {n : Nat} {x1 : Int64} {x3 : Int32} {m m' : Mem} {r : Int32} (hL : PL m) (h : P_Lexer_wordKind_2 n x1 x3 m = some (r, m')) : Run k_P_Lexer_wordKind 2 [(0, .ref 16), (1, .long x1), (3, .int x3)] [] m (some (.int r)) m' ∧ PL m' := by
  induction n generalizing x1 x3 m r m' with
  | zero => exact absurd h (by simp [P_Lexer_wordKind_2])
  | succ n ih =>
    rw [P_Lexer_wordKind_2.eq_2] at h
    refine ai (r_iload_n (pc := 2) (k := 2) (by decide +kernel : decode k_P_Lexer_wordKind.2.1 2 = .ok (.iload_n 3, 1)) rfl rfl) ?_
    refine ai (p_aload_n (pc := 3) (k := 0) (by decide +kernel : decode k_P_Lexer_wordKind.2.1 3 = .ok (.aload_n 0, 1)) rfl rfl) ?_
    refine ai (p_getr (pc := 4) (PR_645_16 hL) (by decide +kernel : decode k_P_Lexer_wordKind.2.1 4 = .ok (.getfield 25, 3)) lg_5_25 (PC_16 hL).1) ?_
    refine ai (p_alen (pc := 7) (x := 40) (by decide +kernel : decode k_P_Lexer_wordKind.2.1 7 = .ok (.arraylength, 1)) (by rw [(PC_21 hL).1]; decide) (PC_21 hL).2 (by decide)) ?_
    rcases ite_some h with ⟨c1, h⟩ | ⟨c1, h⟩
    · refine ai (r_icmp_ge_t (pc := 8) (tgt := 33) (by decide +kernel : decode k_P_Lexer_wordKind.2.1 8 = .ok (.if_icmp .ge (25), 3)) (by decide) c1) ?_
      refine ai (r_iconst (pc := 33) (by decide +kernel : decode k_P_Lexer_wordKind.2.1 33 = .ok (.iconst 2, 1)) ic_2) ?_
      cases h
      exact ⟨r_iret rfl (by decide +kernel : decode k_P_Lexer_wordKind.2.1 34 = .ok (.ireturn, 1)), hL⟩
    · refine ai (r_icmp_ge_f (pc := 8) 33 (by decide +kernel : decode k_P_Lexer_wordKind.2.1 8 = .ok (.if_icmp .ge (25), 3)) (by decide) c1) ?_
      refine ai (p_aload_n (pc := 11) (k := 0) (by decide +kernel : decode k_P_Lexer_wordKind.2.1 11 = .ok (.aload_n 0, 1)) rfl rfl) ?_
      refine ai (p_getr (pc := 12) (PR_645_16 hL) (by decide +kernel : decode k_P_Lexer_wordKind.2.1 12 = .ok (.getfield 25, 3)) lg_5_25 (PC_16 hL).1) ?_
      refine ai (r_iload_n (pc := 15) (k := 2) (by decide +kernel : decode k_P_Lexer_wordKind.2.1 15 = .ok (.iload_n 3, 1)) rfl rfl) ?_
      obtain ⟨g2, h⟩ := gd_some h
      refine ai (p_lald (pc := 16) (by decide +kernel : decode k_P_Lexer_wordKind.2.1 16 = .ok (.laload, 1)) (PC_21 hL).1 (PC_21 hL).2 g2) ?_
      refine ai (r_lload_n (pc := 17) (k := 1) (by decide +kernel : decode k_P_Lexer_wordKind.2.1 17 = .ok (.lload_n 1, 1)) rfl rfl) ?_
      refine ai (r_lcmp (pc := 18) (by decide +kernel : decode k_P_Lexer_wordKind.2.1 18 = .ok (.lcmp, 1))) ?_
      rcases ite_some h with ⟨c3, h⟩ | ⟨c3, h⟩
      · refine ai (r_if_ne_f (pc := 19) 27 (by decide +kernel : decode k_P_Lexer_wordKind.2.1 19 = .ok (.ifCond .ne (8), 3)) (by decide) c3) ?_
        exact (ai (r_sub [2] rfl) (P_Lexer_wordKind_22_run hL h))
      · refine ai (r_if_ne_t (pc := 19) (tgt := 27) (by decide +kernel : decode k_P_Lexer_wordKind.2.1 19 = .ok (.ifCond .ne (8), 3)) (by decide) c3) ?_
        obtain ⟨v4, hv4, h⟩ := vb_some h
        refine ai (e_iinc (pc := 27) (k := 2) hv4 ic_1 (by decide +kernel : decode k_P_Lexer_wordKind.2.1 27 = .ok (.iinc 3 (1), 3)) rfl (by decide) rfl) ?_
        refine ai (r_goto (pc := 30) (tgt := 2) (by decide +kernel : decode k_P_Lexer_wordKind.2.1 30 = .ok (.goto (-28), 3)) (by decide)) ?_
        exact (ai (r_sub [1, 2, 0] rfl) (ih hL h))
set_option maxRecDepth 100000 in
set_option maxHeartbeats 4000000 in
theorem P_Lexer_wordKind_run {x1 : Int64} {m m' : Mem} {r : Int32} (hL : PL m) (h : P_Lexer_wordKind x1 m = some (r, m')) : Run k_P_Lexer_wordKind 0 [(0, .ref 16), (1, .long x1)] [] m (some (.int r)) m' ∧ PL m' := by
  unfold P_Lexer_wordKind at h
  refine ai (r_iconst (pc := 0) (by decide +kernel : decode k_P_Lexer_wordKind.2.1 0 = .ok (.iconst 0, 1)) ic_0) ?_
  refine ai (e_istore_n (pc := 1) rfl (by decide +kernel : decode k_P_Lexer_wordKind.2.1 1 = .ok (.istore_n 3, 1)) rfl (by decide) rfl) ?_
  exact (ai (r_sub [1, 2, 0] rfl) (P_Lexer_wordKind_2_run hL h))
set_option maxRecDepth 100000 in
set_option maxHeartbeats 4000000 in
theorem P_Lexer_takeLetters_60_run {x1 : Int32} {x2 : Int32} {x3 : Int64} {m m' : Mem} {r : Int32} (hL : PL m) (h : P_Lexer_takeLetters_60 x1 x2 x3 m = some (r, m')) : Run k_P_Lexer_takeLetters 60 [(0, .ref 16), (1, .int x1), (2, .int x2), (3, .long x3)] [] m (some (.int r)) m' ∧ PL m' := by
  unfold P_Lexer_takeLetters_60 at h
  refine ai (p_aload_n (pc := 60) (k := 0) (by decide +kernel : decode k_P_Lexer_takeLetters.2.1 60 = .ok (.aload_n 0, 1)) rfl rfl) ?_
  refine ai (p_getr (pc := 61) (PR_644_16 hL) (by decide +kernel : decode k_P_Lexer_takeLetters.2.1 61 = .ok (.getfield 21, 3)) lg_5_21 (PC_16 hL).1) ?_
  refine ai (r_iload_n (pc := 64) (k := 1) (by decide +kernel : decode k_P_Lexer_takeLetters.2.1 64 = .ok (.iload_n 1, 1)) rfl rfl) ?_
  refine ai (r_lload_n (pc := 65) (k := 3) (by decide +kernel : decode k_P_Lexer_takeLetters.2.1 65 = .ok (.lload_n 3, 1)) rfl rfl) ?_
  obtain ⟨g1, h⟩ := gd_some h
  have c2 := (PC_20 hL).1
  have c3 := (PC_20 hL).2
  obtain ⟨m4, hm4, h⟩ := vb_some h
  have hL : PL m4 := by rw [hm4]; exact hL
  refine ai (p_last (pc := 66) hm4 (by decide +kernel : decode k_P_Lexer_takeLetters.2.1 66 = .ok (.lastore, 1)) c2 c3 g1) ?_
  refine ai (p_aload_n (pc := 67) (k := 0) (by decide +kernel : decode k_P_Lexer_takeLetters.2.1 67 = .ok (.aload_n 0, 1)) rfl rfl) ?_
  refine ai (r_getI (pc := 68) (by decide +kernel : decode k_P_Lexer_takeLetters.2.1 68 = .ok (.getfield 59, 3)) lg_5_59 (by decide) (PC_16 hL).1) ?_
  refine ai (r_iload_n (pc := 71) (k := 2) (by decide +kernel : decode k_P_Lexer_takeLetters.2.1 71 = .ok (.iload_n 2, 1)) rfl rfl) ?_
  refine ai (r_isub (pc := 72) (by decide +kernel : decode k_P_Lexer_takeLetters.2.1 72 = .ok (.isub, 1))) ?_
  refine ai (r_bipush (pc := 73) (by decide +kernel : decode k_P_Lexer_takeLetters.2.1 73 = .ok (.bipush (8), 2)) (by decide : _ = (8 : Int32))) ?_
  rcases ite_some h with ⟨c5, h⟩ | ⟨c5, h⟩
  · refine ai (r_icmp_le_t (pc := 75) (tgt := 82) (by decide +kernel : decode k_P_Lexer_takeLetters.2.1 75 = .ok (.if_icmp .le (7), 3)) (by decide) c5) ?_
    refine ai (p_aload_n (pc := 82) (k := 0) (by decide +kernel : decode k_P_Lexer_takeLetters.2.1 82 = .ok (.aload_n 0, 1)) rfl rfl) ?_
    refine ai (r_lload_n (pc := 83) (k := 3) (by decide +kernel : decode k_P_Lexer_takeLetters.2.1 83 = .ok (.lload_n 3, 1)) rfl rfl) ?_
    obtain ⟨r6, m7, hr6, h⟩ := bn_some h
    have q8 := P_Lexer_wordKind_run hL hr6
    have c9 := (PC_16 hL).1
    have hL := q8.2
    refine ai (q_callV (pc := 84) (As := [.long x3]) (st := []) (st2 := [.int r6]) (b := 16) rfl rfl (by decide +kernel : decode k_P_Lexer_takeLetters.2.1 84 = .ok (.invokevirtual 87, 3)) lc_5_87 mo_P_Lexer_wordKind ⟨Nat.le_of_ble_eq_true rfl, Nat.le_of_ble_eq_true rfl⟩ (Nat.le_of_ble_eq_true rfl) (Nat.le_of_ble_eq_true rfl) c9 q8.1) ?_
    cases h
    exact ⟨r_iret rfl (by decide +kernel : decode k_P_Lexer_takeLetters.2.1 87 = .ok (.ireturn, 1)), hL⟩
  · refine ai (r_icmp_le_f (pc := 75) 82 (by decide +kernel : decode k_P_Lexer_takeLetters.2.1 75 = .ok (.if_icmp .le (7), 3)) (by decide) c5) ?_
    refine ai (r_iconst (pc := 78) (by decide +kernel : decode k_P_Lexer_takeLetters.2.1 78 = .ok (.iconst 1, 1)) ic_1) ?_
    refine ai (r_goto (pc := 79) (tgt := 87) (by decide +kernel : decode k_P_Lexer_takeLetters.2.1 79 = .ok (.goto (8), 3)) (by decide)) ?_
    cases h
    exact ⟨r_iret rfl (by decide +kernel : decode k_P_Lexer_takeLetters.2.1 87 = .ok (.ireturn, 1)), hL⟩
set_option maxRecDepth 100000 in
set_option maxHeartbeats 4000000 in
theorem P_Lexer_takeLetters_7_run {n : Nat} {x1 : Int32} {x2 : Int32} {x3 : Int64} {m m' : Mem} {r : Int32} (hL : PL m) (h : P_Lexer_takeLetters_7 n x1 x2 x3 m = some (r, m')) : Run k_P_Lexer_takeLetters 7 [(0, .ref 16), (1, .int x1), (2, .int x2), (3, .long x3)] [] m (some (.int r)) m' ∧ PL m' := by
  induction n generalizing x1 x2 x3 m r m' with
  | zero => exact absurd h (by simp [P_Lexer_takeLetters_7])
  | succ n ih =>
    rw [P_Lexer_takeLetters_7.eq_2] at h
    refine ai (p_aload_n (pc := 7) (k := 0) (by decide +kernel : decode k_P_Lexer_takeLetters.2.1 7 = .ok (.aload_n 0, 1)) rfl rfl) ?_
    refine ai (r_getI (pc := 8) (by decide +kernel : decode k_P_Lexer_takeLetters.2.1 8 = .ok (.getfield 59, 3)) lg_5_59 (by decide) (PC_16 hL).1) ?_
    refine ai (p_aload_n (pc := 11) (k := 0) (by decide +kernel : decode k_P_Lexer_takeLetters.2.1 11 = .ok (.aload_n 0, 1)) rfl rfl) ?_
    refine ai (r_getI (pc := 12) (by decide +kernel : decode k_P_Lexer_takeLetters.2.1 12 = .ok (.getfield 56, 3)) lg_5_56 (by decide) (PC_16 hL).1) ?_
    rcases ite_some h with ⟨c1, h⟩ | ⟨c1, h⟩
    · refine ai (r_icmp_ge_t (pc := 15) (tgt := 60) (by decide +kernel : decode k_P_Lexer_takeLetters.2.1 15 = .ok (.if_icmp .ge (45), 3)) (by decide) c1) ?_
      exact (P_Lexer_takeLetters_60_run hL h)
    · refine ai (r_icmp_ge_f (pc := 15) 60 (by decide +kernel : decode k_P_Lexer_takeLetters.2.1 15 = .ok (.if_icmp .ge (45), 3)) (by decide) c1) ?_
      refine ai (p_aload_n (pc := 18) (k := 0) (by decide +kernel : decode k_P_Lexer_takeLetters.2.1 18 = .ok (.aload_n 0, 1)) rfl rfl) ?_
      refine ai (p_getr (pc := 19) (PR_640_16 hL) (by decide +kernel : decode k_P_Lexer_takeLetters.2.1 19 = .ok (.getfield 9, 3)) lg_5_9 (PC_16 hL).1) ?_
      refine ai (p_aload_n (pc := 22) (k := 0) (by decide +kernel : decode k_P_Lexer_takeLetters.2.1 22 = .ok (.aload_n 0, 1)) rfl rfl) ?_
      refine ai (r_getI (pc := 23) (by decide +kernel : decode k_P_Lexer_takeLetters.2.1 23 = .ok (.getfield 59, 3)) lg_5_59 (by decide) (PC_16 hL).1) ?_
      obtain ⟨g2, h⟩ := gd_some h
      refine ai (p_iald (pc := 26) (by decide +kernel : decode k_P_Lexer_takeLetters.2.1 26 = .ok (.iaload, 1)) (PC_17 hL).1 (PC_17 hL).2 g2) ?_
      obtain ⟨r3, hr3, h⟩ := bp_some h
      refine ai (q_callS (pc := 27) (As := [.int (aI m 17 (ix (mI m 646 16)))]) (st := []) (st2 := [.int r3]) rfl rfl (by decide +kernel : decode k_P_Lexer_takeLetters.2.1 27 = .ok (.invokestatic 70, 3)) lc_5_70 mo_P_Lexer_isLetter ⟨Nat.le_of_ble_eq_true rfl, Nat.le_of_ble_eq_true rfl⟩ (Nat.le_of_ble_eq_true rfl) (Nat.le_of_ble_eq_true rfl) (P_Lexer_isLetter_run hr3)) ?_
      rcases ite_some h with ⟨c4, h⟩ | ⟨c4, h⟩
      · refine ai (r_if_eq_t (pc := 30) (tgt := 60) (by decide +kernel : decode k_P_Lexer_takeLetters.2.1 30 = .ok (.ifCond .eq (30), 3)) (by decide) c4) ?_
        exact (P_Lexer_takeLetters_60_run hL h)
      · refine ai (r_if_eq_f (pc := 30) 60 (by decide +kernel : decode k_P_Lexer_takeLetters.2.1 30 = .ok (.ifCond .eq (30), 3)) (by decide) c4) ?_
        refine ai (r_lload_n (pc := 33) (k := 3) (by decide +kernel : decode k_P_Lexer_takeLetters.2.1 33 = .ok (.lload_n 3, 1)) rfl rfl) ?_
        refine ai (p_aload_n (pc := 34) (k := 0) (by decide +kernel : decode k_P_Lexer_takeLetters.2.1 34 = .ok (.aload_n 0, 1)) rfl rfl) ?_
        refine ai (p_getr (pc := 35) (PR_640_16 hL) (by decide +kernel : decode k_P_Lexer_takeLetters.2.1 35 = .ok (.getfield 9, 3)) lg_5_9 (PC_16 hL).1) ?_
        refine ai (p_aload_n (pc := 38) (k := 0) (by decide +kernel : decode k_P_Lexer_takeLetters.2.1 38 = .ok (.aload_n 0, 1)) rfl rfl) ?_
        refine ai (r_getI (pc := 39) (by decide +kernel : decode k_P_Lexer_takeLetters.2.1 39 = .ok (.getfield 59, 3)) lg_5_59 (by decide) (PC_16 hL).1) ?_
        obtain ⟨g5, h⟩ := gd_some h
        refine ai (p_iald (pc := 42) (by decide +kernel : decode k_P_Lexer_takeLetters.2.1 42 = .ok (.iaload, 1)) (PC_17 hL).1 (PC_17 hL).2 g5) ?_
        obtain ⟨r6, hr6, h⟩ := bp_some h
        refine ai (q_callS (pc := 43) (As := [.long x3, .int (aI m 17 (ix (mI m 646 16)))]) (st := []) (st2 := [.long r6]) rfl rfl (by decide +kernel : decode k_P_Lexer_takeLetters.2.1 43 = .ok (.invokestatic 50, 3)) lc_5_50 mo_P_Lexer_withLetter ⟨Nat.le_of_ble_eq_true rfl, Nat.le_of_ble_eq_true rfl⟩ (Nat.le_of_ble_eq_true rfl) (Nat.le_of_ble_eq_true rfl) (P_Lexer_withLetter_run hr6)) ?_
        refine ai (e_lstore_n (pc := 46) rfl (by decide +kernel : decode k_P_Lexer_takeLetters.2.1 46 = .ok (.lstore_n 3, 1)) rfl (by decide) rfl) ?_
        refine ai (p_aload_n (pc := 47) (k := 1) (by decide +kernel : decode k_P_Lexer_takeLetters.2.1 47 = .ok (.aload_n 0, 1)) rfl rfl) ?_
        refine ai (r_dup (pc := 48) (by decide +kernel : decode k_P_Lexer_takeLetters.2.1 48 = .ok (.dup, 1)) (rfl)) ?_
        refine ai (r_getI (pc := 49) (by decide +kernel : decode k_P_Lexer_takeLetters.2.1 49 = .ok (.getfield 59, 3)) lg_5_59 (by decide) (PC_16 hL).1) ?_
        refine ai (r_iconst (pc := 52) (by decide +kernel : decode k_P_Lexer_takeLetters.2.1 52 = .ok (.iconst 1, 1)) ic_1) ?_
        refine ai (r_iadd (pc := 53) (by decide +kernel : decode k_P_Lexer_takeLetters.2.1 53 = .ok (.iadd, 1))) ?_
        have c7 := (PC_16 hL).1
        obtain ⟨m8, hm8, h⟩ := vb_some h
        have hL : PL m8 := by rw [hm8]; exact hL
        refine ai (p_putI (pc := 54) hm8 (by decide +kernel : decode k_P_Lexer_takeLetters.2.1 54 = .ok (.putfield 59, 3)) lp_5_59 c7) ?_
        refine ai (r_goto (pc := 57) (tgt := 7) (by decide +kernel : decode k_P_Lexer_takeLetters.2.1 57 = .ok (.goto (-50), 3)) (by decide)) ?_
        exact (ai (r_sub [1, 2, 3, 0] rfl) (ih hL h))
set_option maxRecDepth 100000 in
set_option maxHeartbeats 4000000 in
theorem P_Lexer_takeLetters_run {x1 : Int32} {m m' : Mem} {r : Int32} (hL : PL m) (h : P_Lexer_takeLetters x1 m = some (r, m')) : Run k_P_Lexer_takeLetters 0 [(0, .ref 16), (1, .int x1)] [] m (some (.int r)) m' ∧ PL m' := by
  unfold P_Lexer_takeLetters at h
  refine ai (p_aload_n (pc := 0) (k := 0) (by decide +kernel : decode k_P_Lexer_takeLetters.2.1 0 = .ok (.aload_n 0, 1)) rfl rfl) ?_
  refine ai (r_getI (pc := 1) (by decide +kernel : decode k_P_Lexer_takeLetters.2.1 1 = .ok (.getfield 59, 3)) lg_5_59 (by decide) (PC_16 hL).1) ?_
  obtain ⟨v1, hv1, h⟩ := vb_some h
  refine ai (e_istore_n (pc := 4) hv1 (by decide +kernel : decode k_P_Lexer_takeLetters.2.1 4 = .ok (.istore_n 2, 1)) rfl (by decide) rfl) ?_
  refine ai (r_lconst (pc := 5) (x := 0) (by decide +kernel : decode k_P_Lexer_takeLetters.2.1 5 = .ok (.lconst 0, 1)) (by decide)) ?_
  refine ai (e_lstore_n (pc := 6) rfl (by decide +kernel : decode k_P_Lexer_takeLetters.2.1 6 = .ok (.lstore_n 3, 1)) rfl (by decide) rfl) ?_
  exact (ai (r_sub [2, 3, 1, 0] rfl) (P_Lexer_takeLetters_7_run hL h))
set_option maxRecDepth 100000 in
set_option maxHeartbeats 4000000 in
theorem P_Lexer_takeDigits_64_run {x1 : Int32} {x2 : Int32} {x3 : Int32} {m m' : Mem} {r : Int32} (hL : PL m) (h : P_Lexer_takeDigits_64 x1 x2 x3 m = some (r, m')) : Run k_P_Lexer_takeDigits 64 [(0, .ref 16), (1, .int x1), (2, .int x2), (3, .int x3)] [] m (some (.int r)) m' ∧ PL m' := by
  unfold P_Lexer_takeDigits_64 at h
  refine ai (p_aload_n (pc := 64) (k := 0) (by decide +kernel : decode k_P_Lexer_takeDigits.2.1 64 = .ok (.aload_n 0, 1)) rfl rfl) ?_
  refine ai (p_getr (pc := 65) (PR_644_16 hL) (by decide +kernel : decode k_P_Lexer_takeDigits.2.1 65 = .ok (.getfield 21, 3)) lg_5_21 (PC_16 hL).1) ?_
  refine ai (r_iload_n (pc := 68) (k := 1) (by decide +kernel : decode k_P_Lexer_takeDigits.2.1 68 = .ok (.iload_n 1, 1)) rfl rfl) ?_
  refine ai (r_iload_n (pc := 69) (k := 3) (by decide +kernel : decode k_P_Lexer_takeDigits.2.1 69 = .ok (.iload_n 3, 1)) rfl rfl) ?_
  refine ai (r_i2l (pc := 70) (by decide +kernel : decode k_P_Lexer_takeDigits.2.1 70 = .ok (.i2l, 1))) ?_
  obtain ⟨g1, h⟩ := gd_some h
  have c2 := (PC_20 hL).1
  have c3 := (PC_20 hL).2
  obtain ⟨m4, hm4, h⟩ := vb_some h
  have hL : PL m4 := by rw [hm4]; exact hL
  refine ai (p_last (pc := 71) hm4 (by decide +kernel : decode k_P_Lexer_takeDigits.2.1 71 = .ok (.lastore, 1)) c2 c3 g1) ?_
  refine ai (p_aload_n (pc := 72) (k := 0) (by decide +kernel : decode k_P_Lexer_takeDigits.2.1 72 = .ok (.aload_n 0, 1)) rfl rfl) ?_
  refine ai (r_getI (pc := 73) (by decide +kernel : decode k_P_Lexer_takeDigits.2.1 73 = .ok (.getfield 59, 3)) lg_5_59 (by decide) (PC_16 hL).1) ?_
  refine ai (r_iload_n (pc := 76) (k := 2) (by decide +kernel : decode k_P_Lexer_takeDigits.2.1 76 = .ok (.iload_n 2, 1)) rfl rfl) ?_
  refine ai (r_isub (pc := 77) (by decide +kernel : decode k_P_Lexer_takeDigits.2.1 77 = .ok (.isub, 1))) ?_
  refine ai (r_iconst (pc := 78) (by decide +kernel : decode k_P_Lexer_takeDigits.2.1 78 = .ok (.iconst 4, 1)) ic_4) ?_
  rcases ite_some h with ⟨c5, h⟩ | ⟨c5, h⟩
  · refine ai (r_icmp_le_t (pc := 79) (tgt := 86) (by decide +kernel : decode k_P_Lexer_takeDigits.2.1 79 = .ok (.if_icmp .le (7), 3)) (by decide) c5) ?_
    refine ai (r_iconst (pc := 86) (by decide +kernel : decode k_P_Lexer_takeDigits.2.1 86 = .ok (.iconst 3, 1)) ic_3) ?_
    cases h
    exact ⟨r_iret rfl (by decide +kernel : decode k_P_Lexer_takeDigits.2.1 87 = .ok (.ireturn, 1)), hL⟩
  · refine ai (r_icmp_le_f (pc := 79) 86 (by decide +kernel : decode k_P_Lexer_takeDigits.2.1 79 = .ok (.if_icmp .le (7), 3)) (by decide) c5) ?_
    refine ai (r_iconst (pc := 82) (by decide +kernel : decode k_P_Lexer_takeDigits.2.1 82 = .ok (.iconst 1, 1)) ic_1) ?_
    refine ai (r_goto (pc := 83) (tgt := 87) (by decide +kernel : decode k_P_Lexer_takeDigits.2.1 83 = .ok (.goto (4), 3)) (by decide)) ?_
    cases h
    exact ⟨r_iret rfl (by decide +kernel : decode k_P_Lexer_takeDigits.2.1 87 = .ok (.ireturn, 1)), hL⟩
set_option maxRecDepth 100000 in
set_option maxHeartbeats 4000000 in
theorem P_Lexer_takeDigits_7_run {n : Nat} {x1 : Int32} {x2 : Int32} {x3 : Int32} {m m' : Mem} {r : Int32} (hL : PL m) (h : P_Lexer_takeDigits_7 n x1 x2 x3 m = some (r, m')) : Run k_P_Lexer_takeDigits 7 [(0, .ref 16), (1, .int x1), (2, .int x2), (3, .int x3)] [] m (some (.int r)) m' ∧ PL m' := by
  induction n generalizing x1 x2 x3 m r m' with
  | zero => exact absurd h (by simp [P_Lexer_takeDigits_7])
  | succ n ih =>
    rw [P_Lexer_takeDigits_7.eq_2] at h
    refine ai (p_aload_n (pc := 7) (k := 0) (by decide +kernel : decode k_P_Lexer_takeDigits.2.1 7 = .ok (.aload_n 0, 1)) rfl rfl) ?_
    refine ai (r_getI (pc := 8) (by decide +kernel : decode k_P_Lexer_takeDigits.2.1 8 = .ok (.getfield 59, 3)) lg_5_59 (by decide) (PC_16 hL).1) ?_
    refine ai (p_aload_n (pc := 11) (k := 0) (by decide +kernel : decode k_P_Lexer_takeDigits.2.1 11 = .ok (.aload_n 0, 1)) rfl rfl) ?_
    refine ai (r_getI (pc := 12) (by decide +kernel : decode k_P_Lexer_takeDigits.2.1 12 = .ok (.getfield 56, 3)) lg_5_56 (by decide) (PC_16 hL).1) ?_
    rcases ite_some h with ⟨c1, h⟩ | ⟨c1, h⟩
    · refine ai (r_icmp_ge_t (pc := 15) (tgt := 64) (by decide +kernel : decode k_P_Lexer_takeDigits.2.1 15 = .ok (.if_icmp .ge (49), 3)) (by decide) c1) ?_
      exact (P_Lexer_takeDigits_64_run hL h)
    · refine ai (r_icmp_ge_f (pc := 15) 64 (by decide +kernel : decode k_P_Lexer_takeDigits.2.1 15 = .ok (.if_icmp .ge (49), 3)) (by decide) c1) ?_
      refine ai (p_aload_n (pc := 18) (k := 0) (by decide +kernel : decode k_P_Lexer_takeDigits.2.1 18 = .ok (.aload_n 0, 1)) rfl rfl) ?_
      refine ai (p_getr (pc := 19) (PR_640_16 hL) (by decide +kernel : decode k_P_Lexer_takeDigits.2.1 19 = .ok (.getfield 9, 3)) lg_5_9 (PC_16 hL).1) ?_
      refine ai (p_aload_n (pc := 22) (k := 0) (by decide +kernel : decode k_P_Lexer_takeDigits.2.1 22 = .ok (.aload_n 0, 1)) rfl rfl) ?_
      refine ai (r_getI (pc := 23) (by decide +kernel : decode k_P_Lexer_takeDigits.2.1 23 = .ok (.getfield 59, 3)) lg_5_59 (by decide) (PC_16 hL).1) ?_
      obtain ⟨g2, h⟩ := gd_some h
      refine ai (p_iald (pc := 26) (by decide +kernel : decode k_P_Lexer_takeDigits.2.1 26 = .ok (.iaload, 1)) (PC_17 hL).1 (PC_17 hL).2 g2) ?_
      obtain ⟨r3, hr3, h⟩ := bp_some h
      refine ai (q_callS (pc := 27) (As := [.int (aI m 17 (ix (mI m 646 16)))]) (st := []) (st2 := [.int r3]) rfl rfl (by decide +kernel : decode k_P_Lexer_takeDigits.2.1 27 = .ok (.invokestatic 77, 3)) lc_5_77 mo_P_Lexer_isDigit ⟨Nat.le_of_ble_eq_true rfl, Nat.le_of_ble_eq_true rfl⟩ (Nat.le_of_ble_eq_true rfl) (Nat.le_of_ble_eq_true rfl) (P_Lexer_isDigit_run hr3)) ?_
      rcases ite_some h with ⟨c4, h⟩ | ⟨c4, h⟩
      · refine ai (r_if_eq_t (pc := 30) (tgt := 64) (by decide +kernel : decode k_P_Lexer_takeDigits.2.1 30 = .ok (.ifCond .eq (34), 3)) (by decide) c4) ?_
        exact (P_Lexer_takeDigits_64_run hL h)
      · refine ai (r_if_eq_f (pc := 30) 64 (by decide +kernel : decode k_P_Lexer_takeDigits.2.1 30 = .ok (.ifCond .eq (34), 3)) (by decide) c4) ?_
        refine ai (r_iload_n (pc := 33) (k := 3) (by decide +kernel : decode k_P_Lexer_takeDigits.2.1 33 = .ok (.iload_n 3, 1)) rfl rfl) ?_
        refine ai (r_bipush (pc := 34) (by decide +kernel : decode k_P_Lexer_takeDigits.2.1 34 = .ok (.bipush (10), 2)) (by decide : _ = (10 : Int32))) ?_
        refine ai (r_imul (pc := 36) (by decide +kernel : decode k_P_Lexer_takeDigits.2.1 36 = .ok (.imul, 1))) ?_
        refine ai (p_aload_n (pc := 37) (k := 0) (by decide +kernel : decode k_P_Lexer_takeDigits.2.1 37 = .ok (.aload_n 0, 1)) rfl rfl) ?_
        refine ai (p_getr (pc := 38) (PR_640_16 hL) (by decide +kernel : decode k_P_Lexer_takeDigits.2.1 38 = .ok (.getfield 9, 3)) lg_5_9 (PC_16 hL).1) ?_
        refine ai (p_aload_n (pc := 41) (k := 0) (by decide +kernel : decode k_P_Lexer_takeDigits.2.1 41 = .ok (.aload_n 0, 1)) rfl rfl) ?_
        refine ai (r_getI (pc := 42) (by decide +kernel : decode k_P_Lexer_takeDigits.2.1 42 = .ok (.getfield 59, 3)) lg_5_59 (by decide) (PC_16 hL).1) ?_
        obtain ⟨g5, h⟩ := gd_some h
        refine ai (p_iald (pc := 45) (by decide +kernel : decode k_P_Lexer_takeDigits.2.1 45 = .ok (.iaload, 1)) (PC_17 hL).1 (PC_17 hL).2 g5) ?_
        refine ai (r_bipush (pc := 46) (by decide +kernel : decode k_P_Lexer_takeDigits.2.1 46 = .ok (.bipush (48), 2)) (by decide : _ = (48 : Int32))) ?_
        refine ai (r_isub (pc := 48) (by decide +kernel : decode k_P_Lexer_takeDigits.2.1 48 = .ok (.isub, 1))) ?_
        refine ai (r_iadd (pc := 49) (by decide +kernel : decode k_P_Lexer_takeDigits.2.1 49 = .ok (.iadd, 1))) ?_
        obtain ⟨v6, hv6, h⟩ := vb_some h
        refine ai (e_istore_n (pc := 50) hv6 (by decide +kernel : decode k_P_Lexer_takeDigits.2.1 50 = .ok (.istore_n 3, 1)) rfl (by decide) rfl) ?_
        refine ai (p_aload_n (pc := 51) (k := 1) (by decide +kernel : decode k_P_Lexer_takeDigits.2.1 51 = .ok (.aload_n 0, 1)) rfl rfl) ?_
        refine ai (r_dup (pc := 52) (by decide +kernel : decode k_P_Lexer_takeDigits.2.1 52 = .ok (.dup, 1)) (rfl)) ?_
        refine ai (r_getI (pc := 53) (by decide +kernel : decode k_P_Lexer_takeDigits.2.1 53 = .ok (.getfield 59, 3)) lg_5_59 (by decide) (PC_16 hL).1) ?_
        refine ai (r_iconst (pc := 56) (by decide +kernel : decode k_P_Lexer_takeDigits.2.1 56 = .ok (.iconst 1, 1)) ic_1) ?_
        refine ai (r_iadd (pc := 57) (by decide +kernel : decode k_P_Lexer_takeDigits.2.1 57 = .ok (.iadd, 1))) ?_
        have c7 := (PC_16 hL).1
        obtain ⟨m8, hm8, h⟩ := vb_some h
        have hL : PL m8 := by rw [hm8]; exact hL
        refine ai (p_putI (pc := 58) hm8 (by decide +kernel : decode k_P_Lexer_takeDigits.2.1 58 = .ok (.putfield 59, 3)) lp_5_59 c7) ?_
        refine ai (r_goto (pc := 61) (tgt := 7) (by decide +kernel : decode k_P_Lexer_takeDigits.2.1 61 = .ok (.goto (-54), 3)) (by decide)) ?_
        exact (ai (r_sub [1, 2, 3, 0] rfl) (ih hL h))
set_option maxRecDepth 100000 in
set_option maxHeartbeats 4000000 in
theorem P_Lexer_takeDigits_run {x1 : Int32} {m m' : Mem} {r : Int32} (hL : PL m) (h : P_Lexer_takeDigits x1 m = some (r, m')) : Run k_P_Lexer_takeDigits 0 [(0, .ref 16), (1, .int x1)] [] m (some (.int r)) m' ∧ PL m' := by
  unfold P_Lexer_takeDigits at h
  refine ai (p_aload_n (pc := 0) (k := 0) (by decide +kernel : decode k_P_Lexer_takeDigits.2.1 0 = .ok (.aload_n 0, 1)) rfl rfl) ?_
  refine ai (r_getI (pc := 1) (by decide +kernel : decode k_P_Lexer_takeDigits.2.1 1 = .ok (.getfield 59, 3)) lg_5_59 (by decide) (PC_16 hL).1) ?_
  obtain ⟨v1, hv1, h⟩ := vb_some h
  refine ai (e_istore_n (pc := 4) hv1 (by decide +kernel : decode k_P_Lexer_takeDigits.2.1 4 = .ok (.istore_n 2, 1)) rfl (by decide) rfl) ?_
  refine ai (r_iconst (pc := 5) (by decide +kernel : decode k_P_Lexer_takeDigits.2.1 5 = .ok (.iconst 0, 1)) ic_0) ?_
  refine ai (e_istore_n (pc := 6) rfl (by decide +kernel : decode k_P_Lexer_takeDigits.2.1 6 = .ok (.istore_n 3, 1)) rfl (by decide) rfl) ?_
  exact (ai (r_sub [2, 3, 1, 0] rfl) (P_Lexer_takeDigits_7_run hL h))
set_option maxRecDepth 100000 in
set_option maxHeartbeats 4000000 in
theorem P_Lexer_takeToken_99_run {x4 : Int32} {s0 : Int32} {s1 : Int32} {m m' : Mem} {r : Int32} (hL : PL m) (h : P_Lexer_takeToken_99 x4 s0 s1 m = some (r, m')) : Run k_P_Lexer_takeToken 99 [(4, .int x4)] [.int s0, .int s1, .ref 16] m (some (.int r)) m' ∧ PL m' := by
  unfold P_Lexer_takeToken_99 at h
  refine ai (r_iadd (pc := 99) (by decide +kernel : decode k_P_Lexer_takeToken.2.1 99 = .ok (.iadd, 1))) ?_
  have c1 := (PC_16 hL).1
  obtain ⟨m2, hm2, h⟩ := vb_some h
  have hL : PL m2 := by rw [hm2]; exact hL
  refine ai (p_putI (pc := 100) hm2 (by decide +kernel : decode k_P_Lexer_takeToken.2.1 100 = .ok (.putfield 59, 3)) lp_5_59 c1) ?_
  refine ai (r_iload (pc := 103) (k := 0) (by decide +kernel : decode k_P_Lexer_takeToken.2.1 103 = .ok (.iload 4, 2)) rfl) ?_
  cases h
  exact ⟨r_iret rfl (by decide +kernel : decode k_P_Lexer_takeToken.2.1 105 = .ok (.ireturn, 1)), hL⟩
set_option maxRecDepth 100000 in
set_option maxHeartbeats 4000000 in
theorem P_Lexer_takeToken_94_run {x4 : Int32} {s0 : Int32} {m m' : Mem} {r : Int32} (hL : PL m) (h : P_Lexer_takeToken_94 x4 s0 m = some (r, m')) : Run k_P_Lexer_takeToken 94 [(4, .int x4)] [.int s0, .ref 16] m (some (.int r)) m' ∧ PL m' := by
  unfold P_Lexer_takeToken_94 at h
  refine ai (r_iconst (pc := 94) (by decide +kernel : decode k_P_Lexer_takeToken.2.1 94 = .ok (.iconst 2, 1)) ic_2) ?_
  refine ai (r_goto (pc := 95) (tgt := 99) (by decide +kernel : decode k_P_Lexer_takeToken.2.1 95 = .ok (.goto (4), 3)) (by decide)) ?_
  exact (P_Lexer_takeToken_99_run hL h)
set_option maxRecDepth 100000 in
set_option maxHeartbeats 4000000 in
theorem P_Lexer_takeToken_60_run {x2 : Int32} {s0 : Int32} {m m' : Mem} {r : Int32} (hL : PL m) (h : P_Lexer_takeToken_60 x2 s0 m = some (r, m')) : Run k_P_Lexer_takeToken 60 [(0, .ref 16), (2, .int x2)] [.int s0] m (some (.int r)) m' ∧ PL m' := by
  unfold P_Lexer_takeToken_60 at h
  refine ai (e_istore_n (pc := 60) rfl (by decide +kernel : decode k_P_Lexer_takeToken.2.1 60 = .ok (.istore_n 3, 1)) rfl (by decide) rfl) ?_
  refine ai (r_iload_n (pc := 61) (k := 2) (by decide +kernel : decode k_P_Lexer_takeToken.2.1 61 = .ok (.iload_n 2, 1)) rfl rfl) ?_
  refine ai (r_iload_n (pc := 62) (k := 0) (by decide +kernel : decode k_P_Lexer_takeToken.2.1 62 = .ok (.iload_n 3, 1)) rfl rfl) ?_
  obtain ⟨r1, hr1, h⟩ := bp_some h
  refine ai (q_callS (pc := 63) (As := [.int x2, .int s0]) (st := []) (st2 := [.int r1]) rfl rfl (by decide +kernel : decode k_P_Lexer_takeToken.2.1 63 = .ok (.invokestatic 83, 3)) lc_5_83 mo_P_Lexer_signKind ⟨Nat.le_of_ble_eq_true rfl, Nat.le_of_ble_eq_true rfl⟩ (Nat.le_of_ble_eq_true rfl) (Nat.le_of_ble_eq_true rfl) (P_Lexer_signKind_run hr1)) ?_
  refine ai (e_istore (pc := 66) rfl (by decide +kernel : decode k_P_Lexer_takeToken.2.1 66 = .ok (.istore 4, 2)) (by decide) rfl) ?_
  refine ai (p_aload_n (pc := 68) (k := 2) (by decide +kernel : decode k_P_Lexer_takeToken.2.1 68 = .ok (.aload_n 0, 1)) rfl rfl) ?_
  refine ai (r_dup (pc := 69) (by decide +kernel : decode k_P_Lexer_takeToken.2.1 69 = .ok (.dup, 1)) (rfl)) ?_
  refine ai (r_getI (pc := 70) (by decide +kernel : decode k_P_Lexer_takeToken.2.1 70 = .ok (.getfield 59, 3)) lg_5_59 (by decide) (PC_16 hL).1) ?_
  refine ai (r_iload (pc := 73) (k := 0) (by decide +kernel : decode k_P_Lexer_takeToken.2.1 73 = .ok (.iload 4, 2)) rfl) ?_
  refine ai (r_bipush (pc := 75) (by decide +kernel : decode k_P_Lexer_takeToken.2.1 75 = .ok (.bipush (10), 2)) (by decide : _ = (10 : Int32))) ?_
  rcases ite_some h with ⟨c2, h⟩ | ⟨c2, h⟩
  · refine ai (r_icmp_eq_t (pc := 77) (tgt := 94) (by decide +kernel : decode k_P_Lexer_takeToken.2.1 77 = .ok (.if_icmp .eq (17), 3)) (by decide) c2) ?_
    exact (ai (r_sub [0] rfl) (P_Lexer_takeToken_94_run hL h))
  · refine ai (r_icmp_eq_f (pc := 77) 94 (by decide +kernel : decode k_P_Lexer_takeToken.2.1 77 = .ok (.if_icmp .eq (17), 3)) (by decide) c2) ?_
    refine ai (r_iload (pc := 80) (k := 0) (by decide +kernel : decode k_P_Lexer_takeToken.2.1 80 = .ok (.iload 4, 2)) rfl) ?_
    refine ai (r_bipush (pc := 82) (by decide +kernel : decode k_P_Lexer_takeToken.2.1 82 = .ok (.bipush (11), 2)) (by decide : _ = (11 : Int32))) ?_
    rcases ite_some h with ⟨c3, h⟩ | ⟨c3, h⟩
    · refine ai (r_icmp_eq_t (pc := 84) (tgt := 94) (by decide +kernel : decode k_P_Lexer_takeToken.2.1 84 = .ok (.if_icmp .eq (10), 3)) (by decide) c3) ?_
      exact (ai (r_sub [0] rfl) (P_Lexer_takeToken_94_run hL h))
    · refine ai (r_icmp_eq_f (pc := 84) 94 (by decide +kernel : decode k_P_Lexer_takeToken.2.1 84 = .ok (.if_icmp .eq (10), 3)) (by decide) c3) ?_
      refine ai (r_iload (pc := 87) (k := 0) (by decide +kernel : decode k_P_Lexer_takeToken.2.1 87 = .ok (.iload 4, 2)) rfl) ?_
      refine ai (r_bipush (pc := 89) (by decide +kernel : decode k_P_Lexer_takeToken.2.1 89 = .ok (.bipush (13), 2)) (by decide : _ = (13 : Int32))) ?_
      rcases ite_some h with ⟨c4, h⟩ | ⟨c4, h⟩
      · refine ai (r_icmp_ne_f (pc := 91) 98 (by decide +kernel : decode k_P_Lexer_takeToken.2.1 91 = .ok (.if_icmp .ne (7), 3)) (by decide) c4) ?_
        exact (ai (r_sub [0] rfl) (P_Lexer_takeToken_94_run hL h))
      · refine ai (r_icmp_ne_t (pc := 91) (tgt := 98) (by decide +kernel : decode k_P_Lexer_takeToken.2.1 91 = .ok (.if_icmp .ne (7), 3)) (by decide) c4) ?_
        refine ai (r_iconst (pc := 98) (by decide +kernel : decode k_P_Lexer_takeToken.2.1 98 = .ok (.iconst 1, 1)) ic_1) ?_
        exact (ai (r_sub [0] rfl) (P_Lexer_takeToken_99_run hL h))
set_option maxRecDepth 100000 in
set_option maxHeartbeats 4000000 in
theorem P_Lexer_takeToken_59_run {x2 : Int32} {m m' : Mem} {r : Int32} (hL : PL m) (h : P_Lexer_takeToken_59 x2 m = some (r, m')) : Run k_P_Lexer_takeToken 59 [(0, .ref 16), (2, .int x2)] [] m (some (.int r)) m' ∧ PL m' := by
  unfold P_Lexer_takeToken_59 at h
  refine ai (r_iconst (pc := 59) (by decide +kernel : decode k_P_Lexer_takeToken.2.1 59 = .ok (.iconst 0, 1)) ic_0) ?_
  exact (P_Lexer_takeToken_60_run hL h)
set_option maxRecDepth 100000 in
set_option maxHeartbeats 4000000 in
theorem P_Lexer_takeToken_run {x1 : Int32} {x2 : Int32} {m m' : Mem} {r : Int32} (hL : PL m) (h : P_Lexer_takeToken x1 x2 m = some (r, m')) : Run k_P_Lexer_takeToken 0 [(0, .ref 16), (1, .int x1), (2, .int x2)] [] m (some (.int r)) m' ∧ PL m' := by
  unfold P_Lexer_takeToken at h
  refine ai (r_iload_n (pc := 0) (k := 2) (by decide +kernel : decode k_P_Lexer_takeToken.2.1 0 = .ok (.iload_n 2, 1)) rfl rfl) ?_
  obtain ⟨r1, hr1, h⟩ := bp_some h
  refine ai (q_callS (pc := 1) (As := [.int x2]) (st := []) (st2 := [.int r1]) rfl rfl (by decide +kernel : decode k_P_Lexer_takeToken.2.1 1 = .ok (.invokestatic 70, 3)) lc_5_70 mo_P_Lexer_isLetter ⟨Nat.le_of_ble_eq_true rfl, Nat.le_of_ble_eq_true rfl⟩ (Nat.le_of_ble_eq_true rfl) (Nat.le_of_ble_eq_true rfl) (P_Lexer_isLetter_run hr1)) ?_
  rcases ite_some h with ⟨c2, h⟩ | ⟨c2, h⟩
  · refine ai (r_if_eq_t (pc := 4) (tgt := 13) (by decide +kernel : decode k_P_Lexer_takeToken.2.1 4 = .ok (.ifCond .eq (9), 3)) (by decide) c2) ?_
    refine ai (r_iload_n (pc := 13) (k := 2) (by decide +kernel : decode k_P_Lexer_takeToken.2.1 13 = .ok (.iload_n 2, 1)) rfl rfl) ?_
    obtain ⟨r3, hr3, h⟩ := bp_some h
    refine ai (q_callS (pc := 14) (As := [.int x2]) (st := []) (st2 := [.int r3]) rfl rfl (by decide +kernel : decode k_P_Lexer_takeToken.2.1 14 = .ok (.invokestatic 77, 3)) lc_5_77 mo_P_Lexer_isDigit ⟨Nat.le_of_ble_eq_true rfl, Nat.le_of_ble_eq_true rfl⟩ (Nat.le_of_ble_eq_true rfl) (Nat.le_of_ble_eq_true rfl) (P_Lexer_isDigit_run hr3)) ?_
    rcases ite_some h with ⟨c4, h⟩ | ⟨c4, h⟩
    · refine ai (r_if_eq_t (pc := 17) (tgt := 26) (by decide +kernel : decode k_P_Lexer_takeToken.2.1 17 = .ok (.ifCond .eq (9), 3)) (by decide) c4) ?_
      refine ai (p_aload_n (pc := 26) (k := 0) (by decide +kernel : decode k_P_Lexer_takeToken.2.1 26 = .ok (.aload_n 0, 1)) rfl rfl) ?_
      refine ai (r_getI (pc := 27) (by decide +kernel : decode k_P_Lexer_takeToken.2.1 27 = .ok (.getfield 59, 3)) lg_5_59 (by decide) (PC_16 hL).1) ?_
      refine ai (r_iconst (pc := 30) (by decide +kernel : decode k_P_Lexer_takeToken.2.1 30 = .ok (.iconst 1, 1)) ic_1) ?_
      refine ai (r_iadd (pc := 31) (by decide +kernel : decode k_P_Lexer_takeToken.2.1 31 = .ok (.iadd, 1))) ?_
      refine ai (p_aload_n (pc := 32) (k := 0) (by decide +kernel : decode k_P_Lexer_takeToken.2.1 32 = .ok (.aload_n 0, 1)) rfl rfl) ?_
      refine ai (r_getI (pc := 33) (by decide +kernel : decode k_P_Lexer_takeToken.2.1 33 = .ok (.getfield 56, 3)) lg_5_56 (by decide) (PC_16 hL).1) ?_
      rcases ite_some h with ⟨c5, h⟩ | ⟨c5, h⟩
      · refine ai (r_icmp_ge_t (pc := 36) (tgt := 59) (by decide +kernel : decode k_P_Lexer_takeToken.2.1 36 = .ok (.if_icmp .ge (23), 3)) (by decide) c5) ?_
        exact (ai (r_sub [0, 2] rfl) (P_Lexer_takeToken_59_run hL h))
      · refine ai (r_icmp_ge_f (pc := 36) 59 (by decide +kernel : decode k_P_Lexer_takeToken.2.1 36 = .ok (.if_icmp .ge (23), 3)) (by decide) c5) ?_
        refine ai (p_aload_n (pc := 39) (k := 0) (by decide +kernel : decode k_P_Lexer_takeToken.2.1 39 = .ok (.aload_n 0, 1)) rfl rfl) ?_
        refine ai (p_getr (pc := 40) (PR_640_16 hL) (by decide +kernel : decode k_P_Lexer_takeToken.2.1 40 = .ok (.getfield 9, 3)) lg_5_9 (PC_16 hL).1) ?_
        refine ai (p_aload_n (pc := 43) (k := 0) (by decide +kernel : decode k_P_Lexer_takeToken.2.1 43 = .ok (.aload_n 0, 1)) rfl rfl) ?_
        refine ai (r_getI (pc := 44) (by decide +kernel : decode k_P_Lexer_takeToken.2.1 44 = .ok (.getfield 59, 3)) lg_5_59 (by decide) (PC_16 hL).1) ?_
        refine ai (r_iconst (pc := 47) (by decide +kernel : decode k_P_Lexer_takeToken.2.1 47 = .ok (.iconst 1, 1)) ic_1) ?_
        refine ai (r_iadd (pc := 48) (by decide +kernel : decode k_P_Lexer_takeToken.2.1 48 = .ok (.iadd, 1))) ?_
        obtain ⟨g6, h⟩ := gd_some h
        refine ai (p_iald (pc := 49) (by decide +kernel : decode k_P_Lexer_takeToken.2.1 49 = .ok (.iaload, 1)) (PC_17 hL).1 (PC_17 hL).2 g6) ?_
        refine ai (r_bipush (pc := 50) (by decide +kernel : decode k_P_Lexer_takeToken.2.1 50 = .ok (.bipush (61), 2)) (by decide : _ = (61 : Int32))) ?_
        rcases ite_some h with ⟨c7, h⟩ | ⟨c7, h⟩
        · refine ai (r_icmp_ne_f (pc := 52) 59 (by decide +kernel : decode k_P_Lexer_takeToken.2.1 52 = .ok (.if_icmp .ne (7), 3)) (by decide) c7) ?_
          refine ai (r_iconst (pc := 55) (by decide +kernel : decode k_P_Lexer_takeToken.2.1 55 = .ok (.iconst 1, 1)) ic_1) ?_
          refine ai (r_goto (pc := 56) (tgt := 60) (by decide +kernel : decode k_P_Lexer_takeToken.2.1 56 = .ok (.goto (4), 3)) (by decide)) ?_
          exact (ai (r_sub [0, 2] rfl) (P_Lexer_takeToken_60_run hL h))
        · refine ai (r_icmp_ne_t (pc := 52) (tgt := 59) (by decide +kernel : decode k_P_Lexer_takeToken.2.1 52 = .ok (.if_icmp .ne (7), 3)) (by decide) c7) ?_
          exact (ai (r_sub [0, 2] rfl) (P_Lexer_takeToken_59_run hL h))
    · refine ai (r_if_eq_f (pc := 17) 26 (by decide +kernel : decode k_P_Lexer_takeToken.2.1 17 = .ok (.ifCond .eq (9), 3)) (by decide) c4) ?_
      refine ai (p_aload_n (pc := 20) (k := 0) (by decide +kernel : decode k_P_Lexer_takeToken.2.1 20 = .ok (.aload_n 0, 1)) rfl rfl) ?_
      refine ai (r_iload_n (pc := 21) (k := 1) (by decide +kernel : decode k_P_Lexer_takeToken.2.1 21 = .ok (.iload_n 1, 1)) rfl rfl) ?_
      obtain ⟨r8, m9, hr8, h⟩ := bn_some h
      have q10 := P_Lexer_takeDigits_run hL hr8
      have c11 := (PC_16 hL).1
      have hL := q10.2
      refine ai (q_callV (pc := 22) (As := [.int x1]) (st := []) (st2 := [.int r8]) (b := 16) rfl rfl (by decide +kernel : decode k_P_Lexer_takeToken.2.1 22 = .ok (.invokevirtual 80, 3)) lc_5_80 mo_P_Lexer_takeDigits ⟨Nat.le_of_ble_eq_true rfl, Nat.le_of_ble_eq_true rfl⟩ (Nat.le_of_ble_eq_true rfl) (Nat.le_of_ble_eq_true rfl) c11 q10.1) ?_
      cases h
      exact ⟨r_iret rfl (by decide +kernel : decode k_P_Lexer_takeToken.2.1 25 = .ok (.ireturn, 1)), hL⟩
  · refine ai (r_if_eq_f (pc := 4) 13 (by decide +kernel : decode k_P_Lexer_takeToken.2.1 4 = .ok (.ifCond .eq (9), 3)) (by decide) c2) ?_
    refine ai (p_aload_n (pc := 7) (k := 0) (by decide +kernel : decode k_P_Lexer_takeToken.2.1 7 = .ok (.aload_n 0, 1)) rfl rfl) ?_
    refine ai (r_iload_n (pc := 8) (k := 1) (by decide +kernel : decode k_P_Lexer_takeToken.2.1 8 = .ok (.iload_n 1, 1)) rfl rfl) ?_
    obtain ⟨r12, m13, hr12, h⟩ := bn_some h
    have q14 := P_Lexer_takeLetters_run hL hr12
    have c15 := (PC_16 hL).1
    have hL := q14.2
    refine ai (q_callV (pc := 9) (As := [.int x1]) (st := []) (st2 := [.int r12]) (b := 16) rfl rfl (by decide +kernel : decode k_P_Lexer_takeToken.2.1 9 = .ok (.invokevirtual 73, 3)) lc_5_73 mo_P_Lexer_takeLetters ⟨Nat.le_of_ble_eq_true rfl, Nat.le_of_ble_eq_true rfl⟩ (Nat.le_of_ble_eq_true rfl) (Nat.le_of_ble_eq_true rfl) c15 q14.1) ?_
    cases h
    exact ⟨r_iret rfl (by decide +kernel : decode k_P_Lexer_takeToken.2.1 12 = .ok (.ireturn, 1)), hL⟩
set_option maxRecDepth 100000 in
set_option maxHeartbeats 4000000 in
theorem P_Lexer_scan_128_run {k9 : Int32 → Int32 → Mem → Option (Unit × Mem)} {x2 : Int32} {s0 : Int32} {m m' : Mem} {r : Unit} (hk9 : ∀ (x1 : Int32) (x2 : Int32) (m : Mem) (r : Unit) (m' : Mem), PL m → k9 x1 x2 m = some (r, m') → Run k_P_Lexer_scan 9 [(0, .ref 16), (1, .int x1), (2, .int x2)] [] m none m' ∧ PL m') (hL : PL m) (h : P_Lexer_scan_128 k9 x2 s0 m = some (r, m')) : Run k_P_Lexer_scan 128 [(0, .ref 16), (2, .int x2)] [.int s0] m none m' ∧ PL m' := by
  unfold P_Lexer_scan_128 at h
  refine ai (e_istore_n (pc := 128) rfl (by decide +kernel : decode k_P_Lexer_scan.2.1 128 = .ok (.istore_n 1, 1)) rfl (by decide) rfl) ?_
  obtain ⟨v1, hv1, h⟩ := vb_some h
  refine ai (e_iinc (pc := 129) (k := 2) hv1 ic_1 (by decide +kernel : decode k_P_Lexer_scan.2.1 129 = .ok (.iinc 2 (1), 3)) rfl (by decide) rfl) ?_
  refine ai (r_goto (pc := 132) (tgt := 9) (by decide +kernel : decode k_P_Lexer_scan.2.1 132 = .ok (.goto (-123), 3)) (by decide)) ?_
  exact (ai (r_sub [2, 1, 0] rfl) (hk9 s0 v1 m _ _ hL h))
set_option maxRecDepth 100000 in
set_option maxHeartbeats 4000000 in
theorem P_Lexer_scan_127_run {k9 : Int32 → Int32 → Mem → Option (Unit × Mem)} {x2 : Int32} {m m' : Mem} {r : Unit} (hk9 : ∀ (x1 : Int32) (x2 : Int32) (m : Mem) (r : Unit) (m' : Mem), PL m → k9 x1 x2 m = some (r, m') → Run k_P_Lexer_scan 9 [(0, .ref 16), (1, .int x1), (2, .int x2)] [] m none m' ∧ PL m') (hL : PL m) (h : P_Lexer_scan_127 k9 x2 m = some (r, m')) : Run k_P_Lexer_scan 127 [(0, .ref 16), (2, .int x2)] [] m none m' ∧ PL m' := by
  unfold P_Lexer_scan_127 at h
  refine ai (r_iconst (pc := 127) (by decide +kernel : decode k_P_Lexer_scan.2.1 127 = .ok (.iconst 0, 1)) ic_0) ?_
  exact (P_Lexer_scan_128_run hk9 hL h)
set_option maxRecDepth 100000 in
set_option maxHeartbeats 4000000 in
theorem P_Lexer_scan_103_run {k9 : Int32 → Int32 → Mem → Option (Unit × Mem)} {x2 : Int32} {s0 : Int32} {s1 : Int32} {m m' : Mem} {r : Unit} (hk9 : ∀ (x1 : Int32) (x2 : Int32) (m : Mem) (r : Unit) (m' : Mem), PL m → k9 x1 x2 m = some (r, m') → Run k_P_Lexer_scan 9 [(0, .ref 16), (1, .int x1), (2, .int x2)] [] m none m' ∧ PL m') (hL : PL m) (h : P_Lexer_scan_103 k9 x2 s0 s1 m = some (r, m')) : Run k_P_Lexer_scan 103 [(0, .ref 16), (2, .int x2)] [.int s0, .int s1, .ref 18] m none m' ∧ PL m' := by
  unfold P_Lexer_scan_103 at h
  obtain ⟨g1, h⟩ := gd_some h
  have c2 := (PC_18 hL).1
  have c3 := (PC_18 hL).2
  obtain ⟨m4, hm4, h⟩ := vb_some h
  have hL : PL m4 := by rw [hm4]; exact hL
  refine ai (p_iast (pc := 103) hm4 (by decide +kernel : decode k_P_Lexer_scan.2.1 103 = .ok (.iastore, 1)) c2 c3 g1) ?_
  refine ai (p_aload_n (pc := 104) (k := 0) (by decide +kernel : decode k_P_Lexer_scan.2.1 104 = .ok (.aload_n 0, 1)) rfl rfl) ?_
  refine ai (p_getr (pc := 105) (PR_642_16 hL) (by decide +kernel : decode k_P_Lexer_scan.2.1 105 = .ok (.getfield 15, 3)) lg_5_15 (PC_16 hL).1) ?_
  refine ai (r_iload_n (pc := 108) (k := 1) (by decide +kernel : decode k_P_Lexer_scan.2.1 108 = .ok (.iload_n 2, 1)) rfl rfl) ?_
  obtain ⟨g5, h⟩ := gd_some h
  refine ai (p_iald (pc := 109) (by decide +kernel : decode k_P_Lexer_scan.2.1 109 = .ok (.iaload, 1)) (PC_18 hL).1 (PC_18 hL).2 g5) ?_
  rcases ite_some h with ⟨c6, h⟩ | ⟨c6, h⟩
  · refine ai (r_if_eq_t (pc := 110) (tgt := 127) (by decide +kernel : decode k_P_Lexer_scan.2.1 110 = .ok (.ifCond .eq (17), 3)) (by decide) c6) ?_
    exact (P_Lexer_scan_127_run hk9 hL h)
  · refine ai (r_if_eq_f (pc := 110) 127 (by decide +kernel : decode k_P_Lexer_scan.2.1 110 = .ok (.ifCond .eq (17), 3)) (by decide) c6) ?_
    refine ai (p_aload_n (pc := 113) (k := 0) (by decide +kernel : decode k_P_Lexer_scan.2.1 113 = .ok (.aload_n 0, 1)) rfl rfl) ?_
    refine ai (p_getr (pc := 114) (PR_642_16 hL) (by decide +kernel : decode k_P_Lexer_scan.2.1 114 = .ok (.getfield 15, 3)) lg_5_15 (PC_16 hL).1) ?_
    refine ai (r_iload_n (pc := 117) (k := 1) (by decide +kernel : decode k_P_Lexer_scan.2.1 117 = .ok (.iload_n 2, 1)) rfl rfl) ?_
    obtain ⟨g7, h⟩ := gd_some h
    refine ai (p_iald (pc := 118) (by decide +kernel : decode k_P_Lexer_scan.2.1 118 = .ok (.iaload, 1)) (PC_18 hL).1 (PC_18 hL).2 g7) ?_
    refine ai (r_iconst (pc := 119) (by decide +kernel : decode k_P_Lexer_scan.2.1 119 = .ok (.iconst 1, 1)) ic_1) ?_
    rcases ite_some h with ⟨c8, h⟩ | ⟨c8, h⟩
    · refine ai (r_icmp_eq_t (pc := 120) (tgt := 127) (by decide +kernel : decode k_P_Lexer_scan.2.1 120 = .ok (.if_icmp .eq (7), 3)) (by decide) c8) ?_
      exact (P_Lexer_scan_127_run hk9 hL h)
    · refine ai (r_icmp_eq_f (pc := 120) 127 (by decide +kernel : decode k_P_Lexer_scan.2.1 120 = .ok (.if_icmp .eq (7), 3)) (by decide) c8) ?_
      refine ai (r_iconst (pc := 123) (by decide +kernel : decode k_P_Lexer_scan.2.1 123 = .ok (.iconst 1, 1)) ic_1) ?_
      refine ai (r_goto (pc := 124) (tgt := 128) (by decide +kernel : decode k_P_Lexer_scan.2.1 124 = .ok (.goto (4), 3)) (by decide)) ?_
      exact (P_Lexer_scan_128_run hk9 hL h)
set_option maxRecDepth 100000 in
set_option maxHeartbeats 4000000 in
theorem P_Lexer_scan_59_run {k9 : Int32 → Int32 → Mem → Option (Unit × Mem)} {x2 : Int32} {m m' : Mem} {r : Unit} (hk9 : ∀ (x1 : Int32) (x2 : Int32) (m : Mem) (r : Unit) (m' : Mem), PL m → k9 x1 x2 m = some (r, m') → Run k_P_Lexer_scan 9 [(0, .ref 16), (1, .int x1), (2, .int x2)] [] m none m' ∧ PL m') (hL : PL m) (h : P_Lexer_scan_59 k9 x2 m = some (r, m')) : Run k_P_Lexer_scan 59 [(0, .ref 16), (2, .int x2)] [] m none m' ∧ PL m' := by
  unfold P_Lexer_scan_59 at h
  refine ai (p_aload_n (pc := 59) (k := 0) (by decide +kernel : decode k_P_Lexer_scan.2.1 59 = .ok (.aload_n 0, 1)) rfl rfl) ?_
  refine ai (p_getr (pc := 60) (PR_643_16 hL) (by decide +kernel : decode k_P_Lexer_scan.2.1 60 = .ok (.getfield 18, 3)) lg_5_18 (PC_16 hL).1) ?_
  refine ai (r_iload_n (pc := 63) (k := 1) (by decide +kernel : decode k_P_Lexer_scan.2.1 63 = .ok (.iload_n 2, 1)) rfl rfl) ?_
  refine ai (p_aload_n (pc := 64) (k := 0) (by decide +kernel : decode k_P_Lexer_scan.2.1 64 = .ok (.aload_n 0, 1)) rfl rfl) ?_
  refine ai (r_getI (pc := 65) (by decide +kernel : decode k_P_Lexer_scan.2.1 65 = .ok (.getfield 59, 3)) lg_5_59 (by decide) (PC_16 hL).1) ?_
  obtain ⟨g1, h⟩ := gd_some h
  have c2 := (PC_19 hL).1
  have c3 := (PC_19 hL).2
  obtain ⟨m4, hm4, h⟩ := vb_some h
  have hL : PL m4 := by rw [hm4]; exact hL
  refine ai (p_iast (pc := 68) hm4 (by decide +kernel : decode k_P_Lexer_scan.2.1 68 = .ok (.iastore, 1)) c2 c3 g1) ?_
  refine ai (p_aload_n (pc := 69) (k := 0) (by decide +kernel : decode k_P_Lexer_scan.2.1 69 = .ok (.aload_n 0, 1)) rfl rfl) ?_
  refine ai (p_getr (pc := 70) (PR_642_16 hL) (by decide +kernel : decode k_P_Lexer_scan.2.1 70 = .ok (.getfield 15, 3)) lg_5_15 (PC_16 hL).1) ?_
  refine ai (r_iload_n (pc := 73) (k := 1) (by decide +kernel : decode k_P_Lexer_scan.2.1 73 = .ok (.iload_n 2, 1)) rfl rfl) ?_
  refine ai (p_aload_n (pc := 74) (k := 0) (by decide +kernel : decode k_P_Lexer_scan.2.1 74 = .ok (.aload_n 0, 1)) rfl rfl) ?_
  refine ai (r_getI (pc := 75) (by decide +kernel : decode k_P_Lexer_scan.2.1 75 = .ok (.getfield 59, 3)) lg_5_59 (by decide) (PC_16 hL).1) ?_
  refine ai (p_aload_n (pc := 78) (k := 0) (by decide +kernel : decode k_P_Lexer_scan.2.1 78 = .ok (.aload_n 0, 1)) rfl rfl) ?_
  refine ai (r_getI (pc := 79) (by decide +kernel : decode k_P_Lexer_scan.2.1 79 = .ok (.getfield 56, 3)) lg_5_56 (by decide) (PC_16 hL).1) ?_
  rcases ite_some h with ⟨c5, h⟩ | ⟨c5, h⟩
  · refine ai (r_icmp_ge_t (pc := 82) (tgt := 102) (by decide +kernel : decode k_P_Lexer_scan.2.1 82 = .ok (.if_icmp .ge (20), 3)) (by decide) c5) ?_
    refine ai (r_iconst (pc := 102) (by decide +kernel : decode k_P_Lexer_scan.2.1 102 = .ok (.iconst 0, 1)) ic_0) ?_
    exact (P_Lexer_scan_103_run hk9 hL h)
  · refine ai (r_icmp_ge_f (pc := 82) 102 (by decide +kernel : decode k_P_Lexer_scan.2.1 82 = .ok (.if_icmp .ge (20), 3)) (by decide) c5) ?_
    refine ai (p_aload_n (pc := 85) (k := 0) (by decide +kernel : decode k_P_Lexer_scan.2.1 85 = .ok (.aload_n 0, 1)) rfl rfl) ?_
    refine ai (r_iload_n (pc := 86) (k := 1) (by decide +kernel : decode k_P_Lexer_scan.2.1 86 = .ok (.iload_n 2, 1)) rfl rfl) ?_
    refine ai (p_aload_n (pc := 87) (k := 0) (by decide +kernel : decode k_P_Lexer_scan.2.1 87 = .ok (.aload_n 0, 1)) rfl rfl) ?_
    refine ai (p_getr (pc := 88) (PR_640_16 hL) (by decide +kernel : decode k_P_Lexer_scan.2.1 88 = .ok (.getfield 9, 3)) lg_5_9 (PC_16 hL).1) ?_
    refine ai (p_aload_n (pc := 91) (k := 0) (by decide +kernel : decode k_P_Lexer_scan.2.1 91 = .ok (.aload_n 0, 1)) rfl rfl) ?_
    refine ai (r_getI (pc := 92) (by decide +kernel : decode k_P_Lexer_scan.2.1 92 = .ok (.getfield 59, 3)) lg_5_59 (by decide) (PC_16 hL).1) ?_
    obtain ⟨g6, h⟩ := gd_some h
    refine ai (p_iald (pc := 95) (by decide +kernel : decode k_P_Lexer_scan.2.1 95 = .ok (.iaload, 1)) (PC_17 hL).1 (PC_17 hL).2 g6) ?_
    obtain ⟨r7, m8, hr7, h⟩ := bn_some h
    have q9 := P_Lexer_takeToken_run hL hr7
    have c10 := (PC_16 hL).1
    have hL := q9.2
    refine ai (q_callV (pc := 96) (As := [.int x2, .int (aI m4 17 (ix (mI m4 646 16)))]) (st := [.int x2, .ref 18]) (st2 := [.int r7, .int x2, .ref 18]) (b := 16) rfl rfl (by decide +kernel : decode k_P_Lexer_scan.2.1 96 = .ok (.invokevirtual 66, 3)) lc_5_66 mo_P_Lexer_takeToken ⟨Nat.le_of_ble_eq_true rfl, Nat.le_of_ble_eq_true rfl⟩ (Nat.le_of_ble_eq_true rfl) (Nat.le_of_ble_eq_true rfl) c10 q9.1) ?_
    refine ai (r_goto (pc := 99) (tgt := 103) (by decide +kernel : decode k_P_Lexer_scan.2.1 99 = .ok (.goto (4), 3)) (by decide)) ?_
    exact (P_Lexer_scan_103_run hk9 hL h)
set_option maxRecDepth 100000 in
set_option maxHeartbeats 4000000 in
theorem P_Lexer_scan_20_run {k9 : Int32 → Int32 → Mem → Option (Unit × Mem)} {n : Nat} {x2 : Int32} {m m' : Mem} {r : Unit} (hk9 : ∀ (x1 : Int32) (x2 : Int32) (m : Mem) (r : Unit) (m' : Mem), PL m → k9 x1 x2 m = some (r, m') → Run k_P_Lexer_scan 9 [(0, .ref 16), (1, .int x1), (2, .int x2)] [] m none m' ∧ PL m') (hL : PL m) (h : P_Lexer_scan_20 k9 n x2 m = some (r, m')) : Run k_P_Lexer_scan 20 [(0, .ref 16), (2, .int x2)] [] m none m' ∧ PL m' := by
  induction n generalizing x2 m r m' with
  | zero => exact absurd h (by simp [P_Lexer_scan_20])
  | succ n ih =>
    rw [P_Lexer_scan_20.eq_2] at h
    refine ai (p_aload_n (pc := 20) (k := 0) (by decide +kernel : decode k_P_Lexer_scan.2.1 20 = .ok (.aload_n 0, 1)) rfl rfl) ?_
    refine ai (r_getI (pc := 21) (by decide +kernel : decode k_P_Lexer_scan.2.1 21 = .ok (.getfield 59, 3)) lg_5_59 (by decide) (PC_16 hL).1) ?_
    refine ai (p_aload_n (pc := 24) (k := 0) (by decide +kernel : decode k_P_Lexer_scan.2.1 24 = .ok (.aload_n 0, 1)) rfl rfl) ?_
    refine ai (r_getI (pc := 25) (by decide +kernel : decode k_P_Lexer_scan.2.1 25 = .ok (.getfield 56, 3)) lg_5_56 (by decide) (PC_16 hL).1) ?_
    rcases ite_some h with ⟨c1, h⟩ | ⟨c1, h⟩
    · refine ai (r_icmp_ge_t (pc := 28) (tgt := 59) (by decide +kernel : decode k_P_Lexer_scan.2.1 28 = .ok (.if_icmp .ge (31), 3)) (by decide) c1) ?_
      exact (P_Lexer_scan_59_run hk9 hL h)
    · refine ai (r_icmp_ge_f (pc := 28) 59 (by decide +kernel : decode k_P_Lexer_scan.2.1 28 = .ok (.if_icmp .ge (31), 3)) (by decide) c1) ?_
      refine ai (p_aload_n (pc := 31) (k := 0) (by decide +kernel : decode k_P_Lexer_scan.2.1 31 = .ok (.aload_n 0, 1)) rfl rfl) ?_
      refine ai (p_getr (pc := 32) (PR_640_16 hL) (by decide +kernel : decode k_P_Lexer_scan.2.1 32 = .ok (.getfield 9, 3)) lg_5_9 (PC_16 hL).1) ?_
      refine ai (p_aload_n (pc := 35) (k := 0) (by decide +kernel : decode k_P_Lexer_scan.2.1 35 = .ok (.aload_n 0, 1)) rfl rfl) ?_
      refine ai (r_getI (pc := 36) (by decide +kernel : decode k_P_Lexer_scan.2.1 36 = .ok (.getfield 59, 3)) lg_5_59 (by decide) (PC_16 hL).1) ?_
      obtain ⟨g2, h⟩ := gd_some h
      refine ai (p_iald (pc := 39) (by decide +kernel : decode k_P_Lexer_scan.2.1 39 = .ok (.iaload, 1)) (PC_17 hL).1 (PC_17 hL).2 g2) ?_
      obtain ⟨r3, hr3, h⟩ := bp_some h
      refine ai (q_callS (pc := 40) (As := [.int (aI m 17 (ix (mI m 646 16)))]) (st := []) (st2 := [.int r3]) rfl rfl (by decide +kernel : decode k_P_Lexer_scan.2.1 40 = .ok (.invokestatic 62, 3)) lc_5_62 mo_P_Lexer_isBlank ⟨Nat.le_of_ble_eq_true rfl, Nat.le_of_ble_eq_true rfl⟩ (Nat.le_of_ble_eq_true rfl) (Nat.le_of_ble_eq_true rfl) (P_Lexer_isBlank_run hr3)) ?_
      rcases ite_some h with ⟨c4, h⟩ | ⟨c4, h⟩
      · refine ai (r_if_eq_t (pc := 43) (tgt := 59) (by decide +kernel : decode k_P_Lexer_scan.2.1 43 = .ok (.ifCond .eq (16), 3)) (by decide) c4) ?_
        exact (P_Lexer_scan_59_run hk9 hL h)
      · refine ai (r_if_eq_f (pc := 43) 59 (by decide +kernel : decode k_P_Lexer_scan.2.1 43 = .ok (.ifCond .eq (16), 3)) (by decide) c4) ?_
        refine ai (p_aload_n (pc := 46) (k := 0) (by decide +kernel : decode k_P_Lexer_scan.2.1 46 = .ok (.aload_n 0, 1)) rfl rfl) ?_
        refine ai (r_dup (pc := 47) (by decide +kernel : decode k_P_Lexer_scan.2.1 47 = .ok (.dup, 1)) (rfl)) ?_
        refine ai (r_getI (pc := 48) (by decide +kernel : decode k_P_Lexer_scan.2.1 48 = .ok (.getfield 59, 3)) lg_5_59 (by decide) (PC_16 hL).1) ?_
        refine ai (r_iconst (pc := 51) (by decide +kernel : decode k_P_Lexer_scan.2.1 51 = .ok (.iconst 1, 1)) ic_1) ?_
        refine ai (r_iadd (pc := 52) (by decide +kernel : decode k_P_Lexer_scan.2.1 52 = .ok (.iadd, 1))) ?_
        have c5 := (PC_16 hL).1
        obtain ⟨m6, hm6, h⟩ := vb_some h
        have hL : PL m6 := by rw [hm6]; exact hL
        refine ai (p_putI (pc := 53) hm6 (by decide +kernel : decode k_P_Lexer_scan.2.1 53 = .ok (.putfield 59, 3)) lp_5_59 c5) ?_
        refine ai (r_goto (pc := 56) (tgt := 20) (by decide +kernel : decode k_P_Lexer_scan.2.1 56 = .ok (.goto (-36), 3)) (by decide)) ?_
        exact (ih hL h)
set_option maxRecDepth 100000 in
set_option maxHeartbeats 4000000 in
theorem P_Lexer_scan_9_run {n : Nat} {x1 : Int32} {x2 : Int32} {m m' : Mem} {r : Unit} (hL : PL m) (h : P_Lexer_scan_9 n x1 x2 m = some (r, m')) : Run k_P_Lexer_scan 9 [(0, .ref 16), (1, .int x1), (2, .int x2)] [] m none m' ∧ PL m' := by
  induction n generalizing x1 x2 m r m' with
  | zero => exact absurd h (by simp [P_Lexer_scan_9])
  | succ n ih =>
    rw [P_Lexer_scan_9.eq_2] at h
    refine ai (r_iload_n (pc := 9) (k := 2) (by decide +kernel : decode k_P_Lexer_scan.2.1 9 = .ok (.iload_n 2, 1)) rfl rfl) ?_
    refine ai (r_sipush (pc := 10) (by decide +kernel : decode k_P_Lexer_scan.2.1 10 = .ok (.sipush (500), 3)) (by decide : _ = (500 : Int32))) ?_
    rcases ite_some h with ⟨c1, h⟩ | ⟨c1, h⟩
    · refine ai (r_icmp_gt_t (pc := 13) (tgt := 135) (by decide +kernel : decode k_P_Lexer_scan.2.1 13 = .ok (.if_icmp .gt (122), 3)) (by decide) c1) ?_
      cases h
      exact ⟨r_vret rfl (by decide +kernel : decode k_P_Lexer_scan.2.1 135 = .ok (.return_, 1)), hL⟩
    · refine ai (r_icmp_gt_f (pc := 13) 135 (by decide +kernel : decode k_P_Lexer_scan.2.1 13 = .ok (.if_icmp .gt (122), 3)) (by decide) c1) ?_
      refine ai (r_iload_n (pc := 16) (k := 1) (by decide +kernel : decode k_P_Lexer_scan.2.1 16 = .ok (.iload_n 1, 1)) rfl rfl) ?_
      rcases ite_some h with ⟨c2, h⟩ | ⟨c2, h⟩
      · refine ai (r_if_eq_t (pc := 17) (tgt := 135) (by decide +kernel : decode k_P_Lexer_scan.2.1 17 = .ok (.ifCond .eq (118), 3)) (by decide) c2) ?_
        cases h
        exact ⟨r_vret rfl (by decide +kernel : decode k_P_Lexer_scan.2.1 135 = .ok (.return_, 1)), hL⟩
      · refine ai (r_if_eq_f (pc := 17) 135 (by decide +kernel : decode k_P_Lexer_scan.2.1 17 = .ok (.ifCond .eq (118), 3)) (by decide) c2) ?_
        exact (ai (r_sub [0, 2] rfl) (P_Lexer_scan_20_run (fun _ _ _ _ _ q1 q3 => ih q1 q3) hL h))
set_option maxRecDepth 100000 in
set_option maxHeartbeats 4000000 in
theorem P_Lexer_scan_run {m m' : Mem} {r : Unit} (hL : PL m) (h : P_Lexer_scan m = some (r, m')) : Run k_P_Lexer_scan 0 [(0, .ref 16)] [] m none m' ∧ PL m' := by
  unfold P_Lexer_scan at h
  refine ai (p_aload_n (pc := 0) (k := 0) (by decide +kernel : decode k_P_Lexer_scan.2.1 0 = .ok (.aload_n 0, 1)) rfl rfl) ?_
  refine ai (r_iconst (pc := 1) (by decide +kernel : decode k_P_Lexer_scan.2.1 1 = .ok (.iconst 0, 1)) ic_0) ?_
  have c1 := (PC_16 hL).1
  obtain ⟨m2, hm2, h⟩ := vb_some h
  have hL : PL m2 := by rw [hm2]; exact hL
  refine ai (p_putI (pc := 2) hm2 (by decide +kernel : decode k_P_Lexer_scan.2.1 2 = .ok (.putfield 59, 3)) lp_5_59 c1) ?_
  refine ai (r_iconst (pc := 5) (by decide +kernel : decode k_P_Lexer_scan.2.1 5 = .ok (.iconst 1, 1)) ic_1) ?_
  refine ai (e_istore_n (pc := 6) rfl (by decide +kernel : decode k_P_Lexer_scan.2.1 6 = .ok (.istore_n 1, 1)) rfl (by decide) rfl) ?_
  refine ai (r_iconst (pc := 7) (by decide +kernel : decode k_P_Lexer_scan.2.1 7 = .ok (.iconst 0, 1)) ic_0) ?_
  refine ai (e_istore_n (pc := 8) rfl (by decide +kernel : decode k_P_Lexer_scan.2.1 8 = .ok (.istore_n 2, 1)) rfl (by decide) rfl) ?_
  exact (ai (r_sub [2, 1, 0] rfl) (P_Lexer_scan_9_run hL h))
set_option maxRecDepth 100000 in
set_option maxHeartbeats 4000000 in
theorem P_Parser_begin_run {m m' : Mem} {r : Unit} (hL : PL m) (h : P_Parser_begin m = some (r, m')) : Run k_P_Parser_begin 0 [(0, .ref 22)] [] m none m' ∧ PL m' := by
  unfold P_Parser_begin at h
  refine ai (p_aload_n (pc := 0) (k := 0) (by decide +kernel : decode k_P_Parser_begin.2.1 0 = .ok (.aload_n 0, 1)) rfl rfl) ?_
  refine ai (r_iconst (pc := 1) (by decide +kernel : decode k_P_Parser_begin.2.1 1 = .ok (.iconst 0, 1)) ic_0) ?_
  have c1 := (PC_22 hL).1
  obtain ⟨m2, hm2, h⟩ := vb_some h
  have hL : PL m2 := by rw [hm2]; exact hL
  refine ai (p_putI (pc := 2) hm2 (by decide +kernel : decode k_P_Parser_begin.2.1 2 = .ok (.putfield 53, 3)) lp_6_53 c1) ?_
  refine ai (p_aload_n (pc := 5) (k := 0) (by decide +kernel : decode k_P_Parser_begin.2.1 5 = .ok (.aload_n 0, 1)) rfl rfl) ?_
  refine ai (r_iconst (pc := 6) (by decide +kernel : decode k_P_Parser_begin.2.1 6 = .ok (.iconst (-1), 1)) ic_m1) ?_
  have c3 := (PC_22 hL).1
  obtain ⟨m4, hm4, h⟩ := vb_some h
  have hL : PL m4 := by rw [hm4]; exact hL
  refine ai (p_putI (pc := 7) hm4 (by decide +kernel : decode k_P_Parser_begin.2.1 7 = .ok (.putfield 15, 3)) lp_6_15 c3) ?_
  refine ai (p_aload_n (pc := 10) (k := 0) (by decide +kernel : decode k_P_Parser_begin.2.1 10 = .ok (.aload_n 0, 1)) rfl rfl) ?_
  refine ai (r_iconst (pc := 11) (by decide +kernel : decode k_P_Parser_begin.2.1 11 = .ok (.iconst 0, 1)) ic_0) ?_
  have c5 := (PC_22 hL).1
  obtain ⟨m6, hm6, h⟩ := vb_some h
  have hL : PL m6 := by rw [hm6]; exact hL
  refine ai (p_putI (pc := 12) hm6 (by decide +kernel : decode k_P_Parser_begin.2.1 12 = .ok (.putfield 56, 3)) lp_6_56 c5) ?_
  refine ai (p_aload_n (pc := 15) (k := 0) (by decide +kernel : decode k_P_Parser_begin.2.1 15 = .ok (.aload_n 0, 1)) rfl rfl) ?_
  refine ai (r_iconst (pc := 16) (by decide +kernel : decode k_P_Parser_begin.2.1 16 = .ok (.iconst (-1), 1)) ic_m1) ?_
  have c7 := (PC_22 hL).1
  obtain ⟨m8, hm8, h⟩ := vb_some h
  have hL : PL m8 := by rw [hm8]; exact hL
  refine ai (p_putI (pc := 17) hm8 (by decide +kernel : decode k_P_Parser_begin.2.1 17 = .ok (.putfield 59, 3)) lp_6_59 c7) ?_
  refine ai (p_aload_n (pc := 20) (k := 0) (by decide +kernel : decode k_P_Parser_begin.2.1 20 = .ok (.aload_n 0, 1)) rfl rfl) ?_
  refine ai (r_iconst (pc := 21) (by decide +kernel : decode k_P_Parser_begin.2.1 21 = .ok (.iconst (-1), 1)) ic_m1) ?_
  have c9 := (PC_22 hL).1
  obtain ⟨m10, hm10, h⟩ := vb_some h
  have hL : PL m10 := by rw [hm10]; exact hL
  refine ai (p_putI (pc := 22) hm10 (by decide +kernel : decode k_P_Parser_begin.2.1 22 = .ok (.putfield 62, 3)) lp_6_62 c9) ?_
  refine ai (p_aload_n (pc := 25) (k := 0) (by decide +kernel : decode k_P_Parser_begin.2.1 25 = .ok (.aload_n 0, 1)) rfl rfl) ?_
  refine ai (p_aload_n (pc := 26) (k := 0) (by decide +kernel : decode k_P_Parser_begin.2.1 26 = .ok (.aload_n 0, 1)) rfl rfl) ?_
  refine ai (r_getI (pc := 27) (by decide +kernel : decode k_P_Parser_begin.2.1 27 = .ok (.getfield 65, 3)) lg_6_65 (by decide) (PC_22 hL).1) ?_
  have c11 := (PC_22 hL).1
  obtain ⟨m12, hm12, h⟩ := vb_some h
  have hL : PL m12 := by rw [hm12]; exact hL
  refine ai (p_putI (pc := 30) hm12 (by decide +kernel : decode k_P_Parser_begin.2.1 30 = .ok (.putfield 68, 3)) lp_6_68 c11) ?_
  refine ai (p_aload_n (pc := 33) (k := 0) (by decide +kernel : decode k_P_Parser_begin.2.1 33 = .ok (.aload_n 0, 1)) rfl rfl) ?_
  refine ai (r_iconst (pc := 34) (by decide +kernel : decode k_P_Parser_begin.2.1 34 = .ok (.iconst 0, 1)) ic_0) ?_
  have c13 := (PC_22 hL).1
  obtain ⟨m14, hm14, h⟩ := vb_some h
  have hL : PL m14 := by rw [hm14]; exact hL
  refine ai (p_putI (pc := 35) hm14 (by decide +kernel : decode k_P_Parser_begin.2.1 35 = .ok (.putfield 71, 3)) lp_6_71 c13) ?_
  refine ai (p_aload_n (pc := 38) (k := 0) (by decide +kernel : decode k_P_Parser_begin.2.1 38 = .ok (.aload_n 0, 1)) rfl rfl) ?_
  refine ai (r_iconst (pc := 39) (by decide +kernel : decode k_P_Parser_begin.2.1 39 = .ok (.iconst 0, 1)) ic_0) ?_
  have c15 := (PC_22 hL).1
  obtain ⟨m16, hm16, h⟩ := vb_some h
  have hL : PL m16 := by rw [hm16]; exact hL
  refine ai (p_putI (pc := 40) hm16 (by decide +kernel : decode k_P_Parser_begin.2.1 40 = .ok (.putfield 74, 3)) lp_6_74 c15) ?_
  refine ai (p_aload_n (pc := 43) (k := 0) (by decide +kernel : decode k_P_Parser_begin.2.1 43 = .ok (.aload_n 0, 1)) rfl rfl) ?_
  refine ai (r_iconst (pc := 44) (by decide +kernel : decode k_P_Parser_begin.2.1 44 = .ok (.iconst (-1), 1)) ic_m1) ?_
  have c17 := (PC_22 hL).1
  obtain ⟨m18, hm18, h⟩ := vb_some h
  have hL : PL m18 := by rw [hm18]; exact hL
  refine ai (p_putI (pc := 45) hm18 (by decide +kernel : decode k_P_Parser_begin.2.1 45 = .ok (.putfield 77, 3)) lp_6_77 c17) ?_
  refine ai (p_aload_n (pc := 48) (k := 0) (by decide +kernel : decode k_P_Parser_begin.2.1 48 = .ok (.aload_n 0, 1)) rfl rfl) ?_
  refine ai (p_getr (pc := 49) (PR_768_22 hL) (by decide +kernel : decode k_P_Parser_begin.2.1 49 = .ok (.getfield 25, 3)) lg_6_25 (PC_22 hL).1) ?_
  obtain ⟨r19, m20, hr19, h⟩ := bn_some h
  have q21 := P_Lexer_scan_run hL hr19
  have c22 := (PC_16 hL).1
  have hL := q21.2
  refine ai (q_callV (pc := 52) (As := []) (st := []) (st2 := []) (b := 16) rfl rfl (by decide +kernel : decode k_P_Parser_begin.2.1 52 = .ok (.invokevirtual 37, 3)) lc_6_37 mo_P_Lexer_scan ⟨Nat.le_of_ble_eq_true rfl, Nat.le_of_ble_eq_true rfl⟩ (Nat.le_of_ble_eq_true rfl) (Nat.le_of_ble_eq_true rfl) c22 q21.1) ?_
  cases h
  exact ⟨r_vret rfl (by decide +kernel : decode k_P_Parser_begin.2.1 55 = .ok (.return_, 1)), hL⟩
set_option maxRecDepth 100000 in
set_option maxHeartbeats 4000000 in
theorem P_Parser_fail_run {x1 : Int32} {m m' : Mem} {r : Int32} (hL : PL m) (h : P_Parser_fail x1 m = some (r, m')) : Run k_P_Parser_fail 0 [(0, .ref 22), (1, .int x1)] [] m (some (.int r)) m' ∧ PL m' := by
  unfold P_Parser_fail at h
  refine ai (p_aload_n (pc := 0) (k := 0) (by decide +kernel : decode k_P_Parser_fail.2.1 0 = .ok (.aload_n 0, 1)) rfl rfl) ?_
  refine ai (r_iload_n (pc := 1) (k := 1) (by decide +kernel : decode k_P_Parser_fail.2.1 1 = .ok (.iload_n 1, 1)) rfl rfl) ?_
  have c1 := (PC_22 hL).1
  obtain ⟨m2, hm2, h⟩ := vb_some h
  have hL : PL m2 := by rw [hm2]; exact hL
  refine ai (p_putI (pc := 2) hm2 (by decide +kernel : decode k_P_Parser_fail.2.1 2 = .ok (.putfield 53, 3)) lp_6_53 c1) ?_
  refine ai (p_aload_n (pc := 5) (k := 0) (by decide +kernel : decode k_P_Parser_fail.2.1 5 = .ok (.aload_n 0, 1)) rfl rfl) ?_
  refine ai (p_aload_n (pc := 6) (k := 0) (by decide +kernel : decode k_P_Parser_fail.2.1 6 = .ok (.aload_n 0, 1)) rfl rfl) ?_
  refine ai (p_getr (pc := 7) (PR_768_22 hL) (by decide +kernel : decode k_P_Parser_fail.2.1 7 = .ok (.getfield 25, 3)) lg_6_25 (PC_22 hL).1) ?_
  refine ai (p_getr (pc := 10) (PR_643_16 hL) (by decide +kernel : decode k_P_Parser_fail.2.1 10 = .ok (.getfield 245, 3)) lg_6_245 (PC_16 hL).1) ?_
  refine ai (p_aload_n (pc := 13) (k := 0) (by decide +kernel : decode k_P_Parser_fail.2.1 13 = .ok (.aload_n 0, 1)) rfl rfl) ?_
  refine ai (r_getI (pc := 14) (by decide +kernel : decode k_P_Parser_fail.2.1 14 = .ok (.getfield 71, 3)) lg_6_71 (by decide) (PC_22 hL).1) ?_
  obtain ⟨g3, h⟩ := gd_some h
  refine ai (p_iald (pc := 17) (by decide +kernel : decode k_P_Parser_fail.2.1 17 = .ok (.iaload, 1)) (PC_19 hL).1 (PC_19 hL).2 g3) ?_
  have c4 := (PC_22 hL).1
  obtain ⟨m5, hm5, h⟩ := vb_some h
  have hL : PL m5 := by rw [hm5]; exact hL
  refine ai (p_putI (pc := 18) hm5 (by decide +kernel : decode k_P_Parser_fail.2.1 18 = .ok (.putfield 15, 3)) lp_6_15 c4) ?_
  refine ai (r_iconst (pc := 21) (by decide +kernel : decode k_P_Parser_fail.2.1 21 = .ok (.iconst 0, 1)) ic_0) ?_
  cases h
  exact ⟨r_zret (by decide) rfl (by decide +kernel : decode k_P_Parser_fail.2.1 22 = .ok (.ireturn, 1)), hL⟩
set_option maxRecDepth 100000 in
set_option maxHeartbeats 4000000 in
theorem P_Parser_take_run {m m' : Mem} {r : Int32} (hL : PL m) (h : P_Parser_take m = some (r, m')) : Run k_P_Parser_take 0 [(0, .ref 22)] [] m (some (.int r)) m' ∧ PL m' := by
  unfold P_Parser_take at h
  refine ai (p_aload_n (pc := 0) (k := 0) (by decide +kernel : decode k_P_Parser_take.2.1 0 = .ok (.aload_n 0, 1)) rfl rfl) ?_
  refine ai (r_getI (pc := 1) (by decide +kernel : decode k_P_Parser_take.2.1 1 = .ok (.getfield 71, 3)) lg_6_71 (by decide) (PC_22 hL).1) ?_
  refine ai (r_sipush (pc := 4) (by decide +kernel : decode k_P_Parser_take.2.1 4 = .ok (.sipush (500), 3)) (by decide : _ = (500 : Int32))) ?_
  rcases ite_some h with ⟨c1, h⟩ | ⟨c1, h⟩
  · refine ai (r_icmp_lt_t (pc := 7) (tgt := 16) (by decide +kernel : decode k_P_Parser_take.2.1 7 = .ok (.if_icmp .lt (9), 3)) (by decide) c1) ?_
    refine ai (p_aload_n (pc := 16) (k := 0) (by decide +kernel : decode k_P_Parser_take.2.1 16 = .ok (.aload_n 0, 1)) rfl rfl) ?_
    refine ai (r_dup (pc := 17) (by decide +kernel : decode k_P_Parser_take.2.1 17 = .ok (.dup, 1)) (rfl)) ?_
    refine ai (r_getI (pc := 18) (by decide +kernel : decode k_P_Parser_take.2.1 18 = .ok (.getfield 71, 3)) lg_6_71 (by decide) (PC_22 hL).1) ?_
    refine ai (r_iconst (pc := 21) (by decide +kernel : decode k_P_Parser_take.2.1 21 = .ok (.iconst 1, 1)) ic_1) ?_
    refine ai (r_iadd (pc := 22) (by decide +kernel : decode k_P_Parser_take.2.1 22 = .ok (.iadd, 1))) ?_
    have c2 := (PC_22 hL).1
    obtain ⟨m3, hm3, h⟩ := vb_some h
    have hL : PL m3 := by rw [hm3]; exact hL
    refine ai (p_putI (pc := 23) hm3 (by decide +kernel : decode k_P_Parser_take.2.1 23 = .ok (.putfield 71, 3)) lp_6_71 c2) ?_
    refine ai (r_iconst (pc := 26) (by decide +kernel : decode k_P_Parser_take.2.1 26 = .ok (.iconst 1, 1)) ic_1) ?_
    cases h
    exact ⟨r_zret (by decide) rfl (by decide +kernel : decode k_P_Parser_take.2.1 27 = .ok (.ireturn, 1)), hL⟩
  · refine ai (r_icmp_lt_f (pc := 7) 16 (by decide +kernel : decode k_P_Parser_take.2.1 7 = .ok (.if_icmp .lt (9), 3)) (by decide) c1) ?_
    refine ai (p_aload_n (pc := 10) (k := 0) (by decide +kernel : decode k_P_Parser_take.2.1 10 = .ok (.aload_n 0, 1)) rfl rfl) ?_
    refine ai (r_iconst (pc := 11) (by decide +kernel : decode k_P_Parser_take.2.1 11 = .ok (.iconst 2, 1)) ic_2) ?_
    obtain ⟨r4, m5, hr4, h⟩ := bn_some h
    have q6 := P_Parser_fail_run hL hr4
    have c7 := (PC_22 hL).1
    have hL := q6.2
    refine ai (q_callV (pc := 12) (As := [.int 2]) (st := []) (st2 := [.int r4]) (b := 22) rfl rfl (by decide +kernel : decode k_P_Parser_take.2.1 12 = .ok (.invokevirtual 143, 3)) lc_6_143 mo_P_Parser_fail ⟨Nat.le_of_ble_eq_true rfl, Nat.le_of_ble_eq_true rfl⟩ (Nat.le_of_ble_eq_true rfl) (Nat.le_of_ble_eq_true rfl) c7 q6.1) ?_
    obtain ⟨z8, h⟩ := gz_some h
    cases h
    exact ⟨r_zret z8 rfl (by decide +kernel : decode k_P_Parser_take.2.1 15 = .ok (.ireturn, 1)), hL⟩
set_option maxRecDepth 100000 in
set_option maxHeartbeats 4000000 in
theorem P_Parser_numberOf_2_run {n : Nat} {x1 : Int64} {x3 : Int32} {m m' : Mem} {r : Int32} (hL : PL m) (h : P_Parser_numberOf_2 n x1 x3 m = some (r, m')) : Run k_P_Parser_numberOf 2 [(0, .ref 22), (1, .long x1), (3, .int x3)] [] m (some (.int r)) m' ∧ PL m' := by
  induction n generalizing x1 x3 m r m' with
  | zero => exact absurd h (by simp [P_Parser_numberOf_2])
  | succ n ih =>
    rw [P_Parser_numberOf_2.eq_2] at h
    refine ai (r_iload_n (pc := 2) (k := 2) (by decide +kernel : decode k_P_Parser_numberOf.2.1 2 = .ok (.iload_n 3, 1)) rfl rfl) ?_
    refine ai (p_aload_n (pc := 3) (k := 0) (by decide +kernel : decode k_P_Parser_numberOf.2.1 3 = .ok (.aload_n 0, 1)) rfl rfl) ?_
    refine ai (r_getI (pc := 4) (by decide +kernel : decode k_P_Parser_numberOf.2.1 4 = .ok (.getfield 65, 3)) lg_6_65 (by decide) (PC_22 hL).1) ?_
    rcases ite_some h with ⟨c1, h⟩ | ⟨c1, h⟩
    · refine ai (r_icmp_ge_t (pc := 7) (tgt := 29) (by decide +kernel : decode k_P_Parser_numberOf.2.1 7 = .ok (.if_icmp .ge (22), 3)) (by decide) c1) ?_
      refine ai (r_iconst (pc := 29) (by decide +kernel : decode k_P_Parser_numberOf.2.1 29 = .ok (.iconst (-1), 1)) ic_m1) ?_
      cases h
      exact ⟨r_iret rfl (by decide +kernel : decode k_P_Parser_numberOf.2.1 30 = .ok (.ireturn, 1)), hL⟩
    · refine ai (r_icmp_ge_f (pc := 7) 29 (by decide +kernel : decode k_P_Parser_numberOf.2.1 7 = .ok (.if_icmp .ge (22), 3)) (by decide) c1) ?_
      refine ai (p_aload_n (pc := 10) (k := 0) (by decide +kernel : decode k_P_Parser_numberOf.2.1 10 = .ok (.aload_n 0, 1)) rfl rfl) ?_
      refine ai (p_getr (pc := 11) (PR_770_22 hL) (by decide +kernel : decode k_P_Parser_numberOf.2.1 11 = .ok (.getfield 9, 3)) lg_6_9 (PC_22 hL).1) ?_
      refine ai (r_iload_n (pc := 14) (k := 2) (by decide +kernel : decode k_P_Parser_numberOf.2.1 14 = .ok (.iload_n 3, 1)) rfl rfl) ?_
      obtain ⟨g2, h⟩ := gd_some h
      refine ai (p_lald (pc := 15) (by decide +kernel : decode k_P_Parser_numberOf.2.1 15 = .ok (.laload, 1)) (PC_23 hL).1 (PC_23 hL).2 g2) ?_
      refine ai (r_lload_n (pc := 16) (k := 1) (by decide +kernel : decode k_P_Parser_numberOf.2.1 16 = .ok (.lload_n 1, 1)) rfl rfl) ?_
      refine ai (r_lcmp (pc := 17) (by decide +kernel : decode k_P_Parser_numberOf.2.1 17 = .ok (.lcmp, 1))) ?_
      rcases ite_some h with ⟨c3, h⟩ | ⟨c3, h⟩
      · refine ai (r_if_ne_f (pc := 18) 23 (by decide +kernel : decode k_P_Parser_numberOf.2.1 18 = .ok (.ifCond .ne (5), 3)) (by decide) c3) ?_
        refine ai (r_iload_n (pc := 21) (k := 2) (by decide +kernel : decode k_P_Parser_numberOf.2.1 21 = .ok (.iload_n 3, 1)) rfl rfl) ?_
        cases h
        exact ⟨r_iret rfl (by decide +kernel : decode k_P_Parser_numberOf.2.1 22 = .ok (.ireturn, 1)), hL⟩
      · refine ai (r_if_ne_t (pc := 18) (tgt := 23) (by decide +kernel : decode k_P_Parser_numberOf.2.1 18 = .ok (.ifCond .ne (5), 3)) (by decide) c3) ?_
        obtain ⟨v4, hv4, h⟩ := vb_some h
        refine ai (e_iinc (pc := 23) (k := 2) hv4 ic_1 (by decide +kernel : decode k_P_Parser_numberOf.2.1 23 = .ok (.iinc 3 (1), 3)) rfl (by decide) rfl) ?_
        refine ai (r_goto (pc := 26) (tgt := 2) (by decide +kernel : decode k_P_Parser_numberOf.2.1 26 = .ok (.goto (-24), 3)) (by decide)) ?_
        exact (ai (r_sub [1, 2, 0] rfl) (ih hL h))
set_option maxRecDepth 100000 in
set_option maxHeartbeats 4000000 in
theorem P_Parser_numberOf_run {x1 : Int64} {m m' : Mem} {r : Int32} (hL : PL m) (h : P_Parser_numberOf x1 m = some (r, m')) : Run k_P_Parser_numberOf 0 [(0, .ref 22), (1, .long x1)] [] m (some (.int r)) m' ∧ PL m' := by
  unfold P_Parser_numberOf at h
  refine ai (r_iconst (pc := 0) (by decide +kernel : decode k_P_Parser_numberOf.2.1 0 = .ok (.iconst 0, 1)) ic_0) ?_
  refine ai (e_istore_n (pc := 1) rfl (by decide +kernel : decode k_P_Parser_numberOf.2.1 1 = .ok (.istore_n 3, 1)) rfl (by decide) rfl) ?_
  exact (ai (r_sub [1, 2, 0] rfl) (P_Parser_numberOf_2_run hL h))
set_option maxRecDepth 100000 in
set_option maxHeartbeats 4000000 in
theorem P_Ledger_awardNamed_35_run {x2 : Int32} {m m' : Mem} {r : Option Nat} (hL : PL m) (h : P_Ledger_awardNamed_35 x2 m = some (r, m')) : Run k_P_Ledger_awardNamed 35 [(0, .ref 13), (2, .int x2)] [] m (some (va_rf r)) m' ∧ PL m' := by
  unfold P_Ledger_awardNamed_35 at h
  refine ai (p_aload_n (pc := 35) (k := 0) (by decide +kernel : decode k_P_Ledger_awardNamed.2.1 35 = .ok (.aload_n 0, 1)) rfl rfl) ?_
  refine ai (p_getr (pc := 36) (PR_513_13 hL) (by decide +kernel : decode k_P_Ledger_awardNamed.2.1 36 = .ok (.getfield 19, 3)) lg_4_19 (PC_13 hL).1) ?_
  refine ai (r_iload_n (pc := 39) (k := 1) (by decide +kernel : decode k_P_Ledger_awardNamed.2.1 39 = .ok (.iload_n 2, 1)) rfl rfl) ?_
  obtain ⟨g1, h⟩ := gd_some h
  refine ai (p_aald (pc := 40) (j := 1) (by decide) (by decide +kernel : decode k_P_Ledger_awardNamed.2.1 40 = .ok (.aaload, 1)) (PC_15 hL).1 (PC_15 hL).2 g1) ?_
  cases h
  exact ⟨r_aret (o := aR m 15 (ix x2)) rfl (Or.inl ⟨_, rfl⟩) (by decide +kernel : decode k_P_Ledger_awardNamed.2.1 41 = .ok (.areturn, 1)), hL⟩
set_option maxRecDepth 100000 in
set_option maxHeartbeats 4000000 in
theorem P_Ledger_awardNamed_42_run {k2 : Int32 → Int32 → Mem → Option (Option Nat × Mem)} {x1 : Int32} {x2 : Int32} {m m' : Mem} {r : Option Nat} (hk2 : ∀ (x1 : Int32) (x2 : Int32) (m : Mem) (r : Option Nat) (m' : Mem), PL m → k2 x1 x2 m = some (r, m') → Run k_P_Ledger_awardNamed 2 [(0, .ref 13), (1, .int x1), (2, .int x2)] [] m (some (va_rf r)) m' ∧ PL m') (hL : PL m) (h : P_Ledger_awardNamed_42 k2 x1 x2 m = some (r, m')) : Run k_P_Ledger_awardNamed 42 [(0, .ref 13), (1, .int x1), (2, .int x2)] [] m (some (va_rf r)) m' ∧ PL m' := by
  unfold P_Ledger_awardNamed_42 at h
  obtain ⟨v1, hv1, h⟩ := vb_some h
  refine ai (e_iinc (pc := 42) (k := 2) hv1 ic_1 (by decide +kernel : decode k_P_Ledger_awardNamed.2.1 42 = .ok (.iinc 2 (1), 3)) rfl (by decide) rfl) ?_
  refine ai (r_goto (pc := 45) (tgt := 2) (by decide +kernel : decode k_P_Ledger_awardNamed.2.1 45 = .ok (.goto (-43), 3)) (by decide)) ?_
  exact (ai (r_sub [1, 2, 0] rfl) (hk2 x1 v1 m _ _ hL h))
set_option maxRecDepth 100000 in
set_option maxHeartbeats 4000000 in
theorem P_Ledger_awardNamed_2_run {n : Nat} {x1 : Int32} {x2 : Int32} {m m' : Mem} {r : Option Nat} (hL : PL m) (h : P_Ledger_awardNamed_2 n x1 x2 m = some (r, m')) : Run k_P_Ledger_awardNamed 2 [(0, .ref 13), (1, .int x1), (2, .int x2)] [] m (some (va_rf r)) m' ∧ PL m' := by
  induction n generalizing x1 x2 m r m' with
  | zero => exact absurd h (by simp [P_Ledger_awardNamed_2])
  | succ n ih =>
    rw [P_Ledger_awardNamed_2.eq_2] at h
    refine ai (r_iload_n (pc := 2) (k := 2) (by decide +kernel : decode k_P_Ledger_awardNamed.2.1 2 = .ok (.iload_n 2, 1)) rfl rfl) ?_
    refine ai (p_aload_n (pc := 3) (k := 0) (by decide +kernel : decode k_P_Ledger_awardNamed.2.1 3 = .ok (.aload_n 0, 1)) rfl rfl) ?_
    refine ai (r_getI (pc := 4) (by decide +kernel : decode k_P_Ledger_awardNamed.2.1 4 = .ok (.getfield 39, 3)) lg_4_39 (by decide) (PC_13 hL).1) ?_
    rcases ite_some h with ⟨c1, h⟩ | ⟨c1, h⟩
    · refine ai (r_icmp_ge_t (pc := 7) (tgt := 48) (by decide +kernel : decode k_P_Ledger_awardNamed.2.1 7 = .ok (.if_icmp .ge (41), 3)) (by decide) c1) ?_
      refine ai (r_null (pc := 48) (by decide +kernel : decode k_P_Ledger_awardNamed.2.1 48 = .ok (.aconst_null, 1))) ?_
      cases h
      exact ⟨r_aret (o := none) rfl (Or.inl ⟨_, rfl⟩) (by decide +kernel : decode k_P_Ledger_awardNamed.2.1 49 = .ok (.areturn, 1)), hL⟩
    · refine ai (r_icmp_ge_f (pc := 7) 48 (by decide +kernel : decode k_P_Ledger_awardNamed.2.1 7 = .ok (.if_icmp .ge (41), 3)) (by decide) c1) ?_
      refine ai (p_aload_n (pc := 10) (k := 0) (by decide +kernel : decode k_P_Ledger_awardNamed.2.1 10 = .ok (.aload_n 0, 1)) rfl rfl) ?_
      refine ai (p_getr (pc := 11) (PR_513_13 hL) (by decide +kernel : decode k_P_Ledger_awardNamed.2.1 11 = .ok (.getfield 19, 3)) lg_4_19 (PC_13 hL).1) ?_
      refine ai (r_iload_n (pc := 14) (k := 2) (by decide +kernel : decode k_P_Ledger_awardNamed.2.1 14 = .ok (.iload_n 2, 1)) rfl rfl) ?_
      obtain ⟨g2, h⟩ := gd_some h
      obtain ⟨a3, o4, h⟩ := gs_some h
      refine ai (p_aaldr (pc := 15) (j := 1) (by decide) o4 (by decide +kernel : decode k_P_Ledger_awardNamed.2.1 15 = .ok (.aaload, 1)) (PC_15 hL).1 (PC_15 hL).2 g2) ?_
      obtain ⟨t5, h⟩ := gt_some h
      refine ai (r_getI (pc := 16) (by decide +kernel : decode k_P_Ledger_awardNamed.2.1 16 = .ok (.getfield 42, 3)) lg_4_42 (by decide) t5) ?_
      rcases ite_some h with ⟨c6, h⟩ | ⟨c6, h⟩
      · refine ai (r_if_ne_f (pc := 19) 42 (by decide +kernel : decode k_P_Ledger_awardNamed.2.1 19 = .ok (.ifCond .ne (23), 3)) (by decide) c6) ?_
        refine ai (p_aload_n (pc := 22) (k := 0) (by decide +kernel : decode k_P_Ledger_awardNamed.2.1 22 = .ok (.aload_n 0, 1)) rfl rfl) ?_
        refine ai (p_getr (pc := 23) (PR_513_13 hL) (by decide +kernel : decode k_P_Ledger_awardNamed.2.1 23 = .ok (.getfield 19, 3)) lg_4_19 (PC_13 hL).1) ?_
        refine ai (r_iload_n (pc := 26) (k := 2) (by decide +kernel : decode k_P_Ledger_awardNamed.2.1 26 = .ok (.iload_n 2, 1)) rfl rfl) ?_
        obtain ⟨g7, h⟩ := gd_some h
        obtain ⟨a8, o9, h⟩ := gs_some h
        refine ai (p_aaldr (pc := 27) (j := 1) (by decide) o9 (by decide +kernel : decode k_P_Ledger_awardNamed.2.1 27 = .ok (.aaload, 1)) (PC_15 hL).1 (PC_15 hL).2 g7) ?_
        obtain ⟨t10, h⟩ := gt_some h
        refine ai (r_getI (pc := 28) (by decide +kernel : decode k_P_Ledger_awardNamed.2.1 28 = .ok (.getfield 45, 3)) lg_4_45 (by decide) t10) ?_
        refine ai (r_iload_n (pc := 31) (k := 1) (by decide +kernel : decode k_P_Ledger_awardNamed.2.1 31 = .ok (.iload_n 1, 1)) rfl rfl) ?_
        rcases ite_some h with ⟨c11, h⟩ | ⟨c11, h⟩
        · refine ai (r_icmp_ne_f (pc := 32) 42 (by decide +kernel : decode k_P_Ledger_awardNamed.2.1 32 = .ok (.if_icmp .ne (10), 3)) (by decide) c11) ?_
          exact (ai (r_sub [0, 2] rfl) (P_Ledger_awardNamed_35_run hL h))
        · refine ai (r_icmp_ne_t (pc := 32) (tgt := 42) (by decide +kernel : decode k_P_Ledger_awardNamed.2.1 32 = .ok (.if_icmp .ne (10), 3)) (by decide) c11) ?_
          exact (P_Ledger_awardNamed_42_run (fun _ _ _ _ _ q1 q3 => ih q1 q3) hL h)
      · refine ai (r_if_ne_t (pc := 19) (tgt := 42) (by decide +kernel : decode k_P_Ledger_awardNamed.2.1 19 = .ok (.ifCond .ne (23), 3)) (by decide) c6) ?_
        exact (P_Ledger_awardNamed_42_run (fun _ _ _ _ _ q1 q3 => ih q1 q3) hL h)
set_option maxRecDepth 100000 in
set_option maxHeartbeats 4000000 in
theorem P_Ledger_awardNamed_run {x1 : Int32} {m m' : Mem} {r : Option Nat} (hL : PL m) (h : P_Ledger_awardNamed x1 m = some (r, m')) : Run k_P_Ledger_awardNamed 0 [(0, .ref 13), (1, .int x1)] [] m (some (va_rf r)) m' ∧ PL m' := by
  unfold P_Ledger_awardNamed at h
  refine ai (r_iconst (pc := 0) (by decide +kernel : decode k_P_Ledger_awardNamed.2.1 0 = .ok (.iconst 0, 1)) ic_0) ?_
  refine ai (e_istore_n (pc := 1) rfl (by decide +kernel : decode k_P_Ledger_awardNamed.2.1 1 = .ok (.istore_n 2, 1)) rfl (by decide) rfl) ?_
  exact (ai (r_sub [1, 2, 0] rfl) (P_Ledger_awardNamed_2_run hL h))
set_option maxRecDepth 100000 in
set_option maxHeartbeats 4000000 in
theorem P_Parser_noteLate_run {x1 : Int32} {m m' : Mem} {r : Unit} (hL : PL m) (h : P_Parser_noteLate x1 m = some (r, m')) : Run k_P_Parser_noteLate 0 [(0, .ref 22), (1, .int x1)] [] m none m' ∧ PL m' := by
  unfold P_Parser_noteLate at h
  refine ai (p_aload_n (pc := 0) (k := 0) (by decide +kernel : decode k_P_Parser_noteLate.2.1 0 = .ok (.aload_n 0, 1)) rfl rfl) ?_
  refine ai (r_getI (pc := 1) (by decide +kernel : decode k_P_Parser_noteLate.2.1 1 = .ok (.getfield 56, 3)) lg_6_56 (by decide) (PC_22 hL).1) ?_
  rcases ite_some h with ⟨c1, h⟩ | ⟨c1, h⟩
  · refine ai (r_if_ne_f (pc := 4) 28 (by decide +kernel : decode k_P_Parser_noteLate.2.1 4 = .ok (.ifCond .ne (24), 3)) (by decide) c1) ?_
    refine ai (p_aload_n (pc := 7) (k := 0) (by decide +kernel : decode k_P_Parser_noteLate.2.1 7 = .ok (.aload_n 0, 1)) rfl rfl) ?_
    refine ai (r_iload_n (pc := 8) (k := 1) (by decide +kernel : decode k_P_Parser_noteLate.2.1 8 = .ok (.iload_n 1, 1)) rfl rfl) ?_
    have c2 := (PC_22 hL).1
    obtain ⟨m3, hm3, h⟩ := vb_some h
    have hL : PL m3 := by rw [hm3]; exact hL
    refine ai (p_putI (pc := 9) hm3 (by decide +kernel : decode k_P_Parser_noteLate.2.1 9 = .ok (.putfield 56, 3)) lp_6_56 c2) ?_
    refine ai (p_aload_n (pc := 12) (k := 0) (by decide +kernel : decode k_P_Parser_noteLate.2.1 12 = .ok (.aload_n 0, 1)) rfl rfl) ?_
    refine ai (p_aload_n (pc := 13) (k := 0) (by decide +kernel : decode k_P_Parser_noteLate.2.1 13 = .ok (.aload_n 0, 1)) rfl rfl) ?_
    refine ai (p_getr (pc := 14) (PR_768_22 hL) (by decide +kernel : decode k_P_Parser_noteLate.2.1 14 = .ok (.getfield 25, 3)) lg_6_25 (PC_22 hL).1) ?_
    refine ai (p_getr (pc := 17) (PR_643_16 hL) (by decide +kernel : decode k_P_Parser_noteLate.2.1 17 = .ok (.getfield 245, 3)) lg_6_245 (PC_16 hL).1) ?_
    refine ai (p_aload_n (pc := 20) (k := 0) (by decide +kernel : decode k_P_Parser_noteLate.2.1 20 = .ok (.aload_n 0, 1)) rfl rfl) ?_
    refine ai (r_getI (pc := 21) (by decide +kernel : decode k_P_Parser_noteLate.2.1 21 = .ok (.getfield 71, 3)) lg_6_71 (by decide) (PC_22 hL).1) ?_
    obtain ⟨g4, h⟩ := gd_some h
    refine ai (p_iald (pc := 24) (by decide +kernel : decode k_P_Parser_noteLate.2.1 24 = .ok (.iaload, 1)) (PC_19 hL).1 (PC_19 hL).2 g4) ?_
    have c5 := (PC_22 hL).1
    obtain ⟨m6, hm6, h⟩ := vb_some h
    have hL : PL m6 := by rw [hm6]; exact hL
    refine ai (p_putI (pc := 25) hm6 (by decide +kernel : decode k_P_Parser_noteLate.2.1 25 = .ok (.putfield 59, 3)) lp_6_59 c5) ?_
    cases h
    exact ⟨r_vret rfl (by decide +kernel : decode k_P_Parser_noteLate.2.1 28 = .ok (.return_, 1)), hL⟩
  · refine ai (r_if_ne_t (pc := 4) (tgt := 28) (by decide +kernel : decode k_P_Parser_noteLate.2.1 4 = .ok (.ifCond .ne (24), 3)) (by decide) c1) ?_
    cases h
    exact ⟨r_vret rfl (by decide +kernel : decode k_P_Parser_noteLate.2.1 28 = .ok (.return_, 1)), hL⟩
set_option maxRecDepth 100000 in
set_option maxHeartbeats 4000000 in
theorem P_Parser_takeName_133_run {m m' : Mem} {r : Int32} (hL : PL m) (h : P_Parser_takeName_133 m = some (r, m')) : Run k_P_Parser_takeName 133 [(0, .ref 22)] [] m (some (.int r)) m' ∧ PL m' := by
  unfold P_Parser_takeName_133 at h
  refine ai (p_aload_n (pc := 133) (k := 0) (by decide +kernel : decode k_P_Parser_takeName.2.1 133 = .ok (.aload_n 0, 1)) rfl rfl) ?_
  obtain ⟨r1, m2, hr1, h⟩ := bn_some h
  have q3 := P_Parser_take_run hL hr1
  have c4 := (PC_22 hL).1
  have hL := q3.2
  refine ai (q_callV (pc := 134) (As := []) (st := []) (st2 := [.int r1]) (b := 22) rfl rfl (by decide +kernel : decode k_P_Parser_takeName.2.1 134 = .ok (.invokevirtual 147, 3)) lc_6_147 mo_P_Parser_take ⟨Nat.le_of_ble_eq_true rfl, Nat.le_of_ble_eq_true rfl⟩ (Nat.le_of_ble_eq_true rfl) (Nat.le_of_ble_eq_true rfl) c4 q3.1) ?_
  obtain ⟨z5, h⟩ := gz_some h
  cases h
  exact ⟨r_zret z5 rfl (by decide +kernel : decode k_P_Parser_takeName.2.1 137 = .ok (.ireturn, 1)), hL⟩
set_option maxRecDepth 100000 in
set_option maxHeartbeats 4000000 in
theorem P_Parser_takeName_101_run {m m' : Mem} {r : Int32} (hL : PL m) (h : P_Parser_takeName_101 m = some (r, m')) : Run k_P_Parser_takeName 101 [(0, .ref 22)] [] m (some (.int r)) m' ∧ PL m' := by
  unfold P_Parser_takeName_101 at h
  refine ai (p_aload_n (pc := 101) (k := 0) (by decide +kernel : decode k_P_Parser_takeName.2.1 101 = .ok (.aload_n 0, 1)) rfl rfl) ?_
  refine ai (r_getI (pc := 102) (by decide +kernel : decode k_P_Parser_takeName.2.1 102 = .ok (.getfield 161, 3)) lg_6_161 (by decide) (PC_22 hL).1) ?_
  refine ai (r_iconst (pc := 105) (by decide +kernel : decode k_P_Parser_takeName.2.1 105 = .ok (.iconst (-1), 1)) ic_m1) ?_
  rcases ite_some h with ⟨c1, h⟩ | ⟨c1, h⟩
  · refine ai (r_icmp_ne_f (pc := 106) 133 (by decide +kernel : decode k_P_Parser_takeName.2.1 106 = .ok (.if_icmp .ne (27), 3)) (by decide) c1) ?_
    refine ai (p_aload_n (pc := 109) (k := 0) (by decide +kernel : decode k_P_Parser_takeName.2.1 109 = .ok (.aload_n 0, 1)) rfl rfl) ?_
    refine ai (r_getI (pc := 110) (by decide +kernel : decode k_P_Parser_takeName.2.1 110 = .ok (.getfield 62, 3)) lg_6_62 (by decide) (PC_22 hL).1) ?_
    refine ai (r_iconst (pc := 113) (by decide +kernel : decode k_P_Parser_takeName.2.1 113 = .ok (.iconst (-1), 1)) ic_m1) ?_
    rcases ite_some h with ⟨c2, h⟩ | ⟨c2, h⟩
    · refine ai (r_icmp_ne_f (pc := 114) 133 (by decide +kernel : decode k_P_Parser_takeName.2.1 114 = .ok (.if_icmp .ne (19), 3)) (by decide) c2) ?_
      refine ai (p_aload_n (pc := 117) (k := 0) (by decide +kernel : decode k_P_Parser_takeName.2.1 117 = .ok (.aload_n 0, 1)) rfl rfl) ?_
      refine ai (p_aload_n (pc := 118) (k := 0) (by decide +kernel : decode k_P_Parser_takeName.2.1 118 = .ok (.aload_n 0, 1)) rfl rfl) ?_
      refine ai (p_getr (pc := 119) (PR_768_22 hL) (by decide +kernel : decode k_P_Parser_takeName.2.1 119 = .ok (.getfield 25, 3)) lg_6_25 (PC_22 hL).1) ?_
      refine ai (p_getr (pc := 122) (PR_643_16 hL) (by decide +kernel : decode k_P_Parser_takeName.2.1 122 = .ok (.getfield 245, 3)) lg_6_245 (PC_16 hL).1) ?_
      refine ai (p_aload_n (pc := 125) (k := 0) (by decide +kernel : decode k_P_Parser_takeName.2.1 125 = .ok (.aload_n 0, 1)) rfl rfl) ?_
      refine ai (r_getI (pc := 126) (by decide +kernel : decode k_P_Parser_takeName.2.1 126 = .ok (.getfield 71, 3)) lg_6_71 (by decide) (PC_22 hL).1) ?_
      obtain ⟨g3, h⟩ := gd_some h
      refine ai (p_iald (pc := 129) (by decide +kernel : decode k_P_Parser_takeName.2.1 129 = .ok (.iaload, 1)) (PC_19 hL).1 (PC_19 hL).2 g3) ?_
      have c4 := (PC_22 hL).1
      obtain ⟨m5, hm5, h⟩ := vb_some h
      have hL : PL m5 := by rw [hm5]; exact hL
      refine ai (p_putI (pc := 130) hm5 (by decide +kernel : decode k_P_Parser_takeName.2.1 130 = .ok (.putfield 62, 3)) lp_6_62 c4) ?_
      exact (P_Parser_takeName_133_run hL h)
    · refine ai (r_icmp_ne_t (pc := 114) (tgt := 133) (by decide +kernel : decode k_P_Parser_takeName.2.1 114 = .ok (.if_icmp .ne (19), 3)) (by decide) c2) ?_
      exact (P_Parser_takeName_133_run hL h)
  · refine ai (r_icmp_ne_t (pc := 106) (tgt := 133) (by decide +kernel : decode k_P_Parser_takeName.2.1 106 = .ok (.if_icmp .ne (27), 3)) (by decide) c1) ?_
    exact (P_Parser_takeName_133_run hL h)
set_option maxRecDepth 100000 in
set_option maxHeartbeats 4000000 in
theorem P_Parser_takeName_run {m m' : Mem} {r : Int32} (hL : PL m) (h : P_Parser_takeName m = some (r, m')) : Run k_P_Parser_takeName 0 [(0, .ref 22)] [] m (some (.int r)) m' ∧ PL m' := by
  unfold P_Parser_takeName at h
  refine ai (p_aload_n (pc := 0) (k := 0) (by decide +kernel : decode k_P_Parser_takeName.2.1 0 = .ok (.aload_n 0, 1)) rfl rfl) ?_
  refine ai (p_getr (pc := 1) (PR_768_22 hL) (by decide +kernel : decode k_P_Parser_takeName.2.1 1 = .ok (.getfield 25, 3)) lg_6_25 (PC_22 hL).1) ?_
  refine ai (p_getr (pc := 4) (PR_642_16 hL) (by decide +kernel : decode k_P_Parser_takeName.2.1 4 = .ok (.getfield 42, 3)) lg_6_42 (PC_16 hL).1) ?_
  refine ai (p_aload_n (pc := 7) (k := 0) (by decide +kernel : decode k_P_Parser_takeName.2.1 7 = .ok (.aload_n 0, 1)) rfl rfl) ?_
  refine ai (r_getI (pc := 8) (by decide +kernel : decode k_P_Parser_takeName.2.1 8 = .ok (.getfield 71, 3)) lg_6_71 (by decide) (PC_22 hL).1) ?_
  obtain ⟨g1, h⟩ := gd_some h
  refine ai (p_iald (pc := 11) (by decide +kernel : decode k_P_Parser_takeName.2.1 11 = .ok (.iaload, 1)) (PC_18 hL).1 (PC_18 hL).2 g1) ?_
  refine ai (r_iconst (pc := 12) (by decide +kernel : decode k_P_Parser_takeName.2.1 12 = .ok (.iconst 2, 1)) ic_2) ?_
  rcases ite_some h with ⟨c2, h⟩ | ⟨c2, h⟩
  · refine ai (r_icmp_eq_t (pc := 13) (tgt := 22) (by decide +kernel : decode k_P_Parser_takeName.2.1 13 = .ok (.if_icmp .eq (9), 3)) (by decide) c2) ?_
    refine ai (p_aload_n (pc := 22) (k := 0) (by decide +kernel : decode k_P_Parser_takeName.2.1 22 = .ok (.aload_n 0, 1)) rfl rfl) ?_
    refine ai (p_aload_n (pc := 23) (k := 0) (by decide +kernel : decode k_P_Parser_takeName.2.1 23 = .ok (.aload_n 0, 1)) rfl rfl) ?_
    refine ai (p_aload_n (pc := 24) (k := 0) (by decide +kernel : decode k_P_Parser_takeName.2.1 24 = .ok (.aload_n 0, 1)) rfl rfl) ?_
    refine ai (p_getr (pc := 25) (PR_768_22 hL) (by decide +kernel : decode k_P_Parser_takeName.2.1 25 = .ok (.getfield 25, 3)) lg_6_25 (PC_22 hL).1) ?_
    refine ai (p_getr (pc := 28) (PR_644_16 hL) (by decide +kernel : decode k_P_Parser_takeName.2.1 28 = .ok (.getfield 46, 3)) lg_6_46 (PC_16 hL).1) ?_
    refine ai (p_aload_n (pc := 31) (k := 0) (by decide +kernel : decode k_P_Parser_takeName.2.1 31 = .ok (.aload_n 0, 1)) rfl rfl) ?_
    refine ai (r_getI (pc := 32) (by decide +kernel : decode k_P_Parser_takeName.2.1 32 = .ok (.getfield 71, 3)) lg_6_71 (by decide) (PC_22 hL).1) ?_
    obtain ⟨g3, h⟩ := gd_some h
    refine ai (p_lald (pc := 35) (by decide +kernel : decode k_P_Parser_takeName.2.1 35 = .ok (.laload, 1)) (PC_20 hL).1 (PC_20 hL).2 g3) ?_
    obtain ⟨r4, m5, hr4, h⟩ := bn_some h
    have q6 := P_Parser_numberOf_run hL hr4
    have c7 := (PC_22 hL).1
    have hL := q6.2
    refine ai (q_callV (pc := 36) (As := [.long (aL m 20 (ix (mI m 779 22)))]) (st := [.ref 22]) (st2 := [.int r4, .ref 22]) (b := 22) rfl rfl (by decide +kernel : decode k_P_Parser_takeName.2.1 36 = .ok (.invokevirtual 49, 3)) lc_6_49 mo_P_Parser_numberOf ⟨Nat.le_of_ble_eq_true rfl, Nat.le_of_ble_eq_true rfl⟩ (Nat.le_of_ble_eq_true rfl) (Nat.le_of_ble_eq_true rfl) c7 q6.1) ?_
    have c8 := (PC_22 hL).1
    obtain ⟨m9, hm9, h⟩ := vb_some h
    have hL : PL m9 := by rw [hm9]; exact hL
    refine ai (p_putI (pc := 39) hm9 (by decide +kernel : decode k_P_Parser_takeName.2.1 39 = .ok (.putfield 161, 3)) lp_6_161 c8) ?_
    refine ai (p_aload_n (pc := 42) (k := 0) (by decide +kernel : decode k_P_Parser_takeName.2.1 42 = .ok (.aload_n 0, 1)) rfl rfl) ?_
    refine ai (r_getI (pc := 43) (by decide +kernel : decode k_P_Parser_takeName.2.1 43 = .ok (.getfield 161, 3)) lg_6_161 (by decide) (PC_22 hL).1) ?_
    refine ai (r_iconst (pc := 46) (by decide +kernel : decode k_P_Parser_takeName.2.1 46 = .ok (.iconst (-1), 1)) ic_m1) ?_
    rcases ite_some h with ⟨c10, h⟩ | ⟨c10, h⟩
    · refine ai (r_icmp_ne_f (pc := 47) 101 (by decide +kernel : decode k_P_Parser_takeName.2.1 47 = .ok (.if_icmp .ne (54), 3)) (by decide) c10) ?_
      refine ai (p_aload_n (pc := 50) (k := 0) (by decide +kernel : decode k_P_Parser_takeName.2.1 50 = .ok (.aload_n 0, 1)) rfl rfl) ?_
      refine ai (r_getI (pc := 51) (by decide +kernel : decode k_P_Parser_takeName.2.1 51 = .ok (.getfield 65, 3)) lg_6_65 (by decide) (PC_22 hL).1) ?_
      refine ai (r_bipush (pc := 54) (by decide +kernel : decode k_P_Parser_takeName.2.1 54 = .ok (.bipush (60), 2)) (by decide : _ = (60 : Int32))) ?_
      rcases ite_some h with ⟨c11, h⟩ | ⟨c11, h⟩
      · refine ai (r_icmp_ge_t (pc := 56) (tgt := 101) (by decide +kernel : decode k_P_Parser_takeName.2.1 56 = .ok (.if_icmp .ge (45), 3)) (by decide) c11) ?_
        exact (P_Parser_takeName_101_run hL h)
      · refine ai (r_icmp_ge_f (pc := 56) 101 (by decide +kernel : decode k_P_Parser_takeName.2.1 56 = .ok (.if_icmp .ge (45), 3)) (by decide) c11) ?_
        refine ai (p_aload_n (pc := 59) (k := 0) (by decide +kernel : decode k_P_Parser_takeName.2.1 59 = .ok (.aload_n 0, 1)) rfl rfl) ?_
        refine ai (p_getr (pc := 60) (PR_770_22 hL) (by decide +kernel : decode k_P_Parser_takeName.2.1 60 = .ok (.getfield 9, 3)) lg_6_9 (PC_22 hL).1) ?_
        refine ai (p_aload_n (pc := 63) (k := 0) (by decide +kernel : decode k_P_Parser_takeName.2.1 63 = .ok (.aload_n 0, 1)) rfl rfl) ?_
        refine ai (r_getI (pc := 64) (by decide +kernel : decode k_P_Parser_takeName.2.1 64 = .ok (.getfield 65, 3)) lg_6_65 (by decide) (PC_22 hL).1) ?_
        refine ai (p_aload_n (pc := 67) (k := 0) (by decide +kernel : decode k_P_Parser_takeName.2.1 67 = .ok (.aload_n 0, 1)) rfl rfl) ?_
        refine ai (p_getr (pc := 68) (PR_768_22 hL) (by decide +kernel : decode k_P_Parser_takeName.2.1 68 = .ok (.getfield 25, 3)) lg_6_25 (PC_22 hL).1) ?_
        refine ai (p_getr (pc := 71) (PR_644_16 hL) (by decide +kernel : decode k_P_Parser_takeName.2.1 71 = .ok (.getfield 46, 3)) lg_6_46 (PC_16 hL).1) ?_
        refine ai (p_aload_n (pc := 74) (k := 0) (by decide +kernel : decode k_P_Parser_takeName.2.1 74 = .ok (.aload_n 0, 1)) rfl rfl) ?_
        refine ai (r_getI (pc := 75) (by decide +kernel : decode k_P_Parser_takeName.2.1 75 = .ok (.getfield 71, 3)) lg_6_71 (by decide) (PC_22 hL).1) ?_
        obtain ⟨g12, h⟩ := gd_some h
        refine ai (p_lald (pc := 78) (by decide +kernel : decode k_P_Parser_takeName.2.1 78 = .ok (.laload, 1)) (PC_20 hL).1 (PC_20 hL).2 g12) ?_
        obtain ⟨g13, h⟩ := gd_some h
        have c14 := (PC_23 hL).1
        have c15 := (PC_23 hL).2
        obtain ⟨m16, hm16, h⟩ := vb_some h
        have hL : PL m16 := by rw [hm16]; exact hL
        refine ai (p_last (pc := 79) hm16 (by decide +kernel : decode k_P_Parser_takeName.2.1 79 = .ok (.lastore, 1)) c14 c15 g13) ?_
        refine ai (p_aload_n (pc := 80) (k := 0) (by decide +kernel : decode k_P_Parser_takeName.2.1 80 = .ok (.aload_n 0, 1)) rfl rfl) ?_
        refine ai (p_aload_n (pc := 81) (k := 0) (by decide +kernel : decode k_P_Parser_takeName.2.1 81 = .ok (.aload_n 0, 1)) rfl rfl) ?_
        refine ai (r_getI (pc := 82) (by decide +kernel : decode k_P_Parser_takeName.2.1 82 = .ok (.getfield 65, 3)) lg_6_65 (by decide) (PC_22 hL).1) ?_
        have c17 := (PC_22 hL).1
        obtain ⟨m18, hm18, h⟩ := vb_some h
        have hL : PL m18 := by rw [hm18]; exact hL
        refine ai (p_putI (pc := 85) hm18 (by decide +kernel : decode k_P_Parser_takeName.2.1 85 = .ok (.putfield 161, 3)) lp_6_161 c17) ?_
        refine ai (p_aload_n (pc := 88) (k := 0) (by decide +kernel : decode k_P_Parser_takeName.2.1 88 = .ok (.aload_n 0, 1)) rfl rfl) ?_
        refine ai (r_dup (pc := 89) (by decide +kernel : decode k_P_Parser_takeName.2.1 89 = .ok (.dup, 1)) (rfl)) ?_
        refine ai (r_getI (pc := 90) (by decide +kernel : decode k_P_Parser_takeName.2.1 90 = .ok (.getfield 65, 3)) lg_6_65 (by decide) (PC_22 hL).1) ?_
        refine ai (r_iconst (pc := 93) (by decide +kernel : decode k_P_Parser_takeName.2.1 93 = .ok (.iconst 1, 1)) ic_1) ?_
        refine ai (r_iadd (pc := 94) (by decide +kernel : decode k_P_Parser_takeName.2.1 94 = .ok (.iadd, 1))) ?_
        have c19 := (PC_22 hL).1
        obtain ⟨m20, hm20, h⟩ := vb_some h
        have hL : PL m20 := by rw [hm20]; exact hL
        refine ai (p_putI (pc := 95) hm20 (by decide +kernel : decode k_P_Parser_takeName.2.1 95 = .ok (.putfield 65, 3)) lp_6_65 c19) ?_
        refine ai (r_goto (pc := 98) (tgt := 133) (by decide +kernel : decode k_P_Parser_takeName.2.1 98 = .ok (.goto (35), 3)) (by decide)) ?_
        exact (P_Parser_takeName_133_run hL h)
    · refine ai (r_icmp_ne_t (pc := 47) (tgt := 101) (by decide +kernel : decode k_P_Parser_takeName.2.1 47 = .ok (.if_icmp .ne (54), 3)) (by decide) c10) ?_
      exact (P_Parser_takeName_101_run hL h)
  · refine ai (r_icmp_eq_f (pc := 13) 22 (by decide +kernel : decode k_P_Parser_takeName.2.1 13 = .ok (.if_icmp .eq (9), 3)) (by decide) c2) ?_
    refine ai (p_aload_n (pc := 16) (k := 0) (by decide +kernel : decode k_P_Parser_takeName.2.1 16 = .ok (.aload_n 0, 1)) rfl rfl) ?_
    refine ai (r_iconst (pc := 17) (by decide +kernel : decode k_P_Parser_takeName.2.1 17 = .ok (.iconst 1, 1)) ic_1) ?_
    obtain ⟨r21, m22, hr21, h⟩ := bn_some h
    have q23 := P_Parser_fail_run hL hr21
    have c24 := (PC_22 hL).1
    have hL := q23.2
    refine ai (q_callV (pc := 18) (As := [.int 1]) (st := []) (st2 := [.int r21]) (b := 22) rfl rfl (by decide +kernel : decode k_P_Parser_takeName.2.1 18 = .ok (.invokevirtual 143, 3)) lc_6_143 mo_P_Parser_fail ⟨Nat.le_of_ble_eq_true rfl, Nat.le_of_ble_eq_true rfl⟩ (Nat.le_of_ble_eq_true rfl) (Nat.le_of_ble_eq_true rfl) c24 q23.1) ?_
    obtain ⟨z25, h⟩ := gz_some h
    cases h
    exact ⟨r_zret z25 rfl (by decide +kernel : decode k_P_Parser_takeName.2.1 21 = .ok (.ireturn, 1)), hL⟩
set_option maxRecDepth 100000 in
set_option maxHeartbeats 4000000 in
theorem P_Parser_takeTitle_89_run {m m' : Mem} {r : Int32} (hL : PL m) (h : P_Parser_takeTitle_89 m = some (r, m')) : Run k_P_Parser_takeTitle 89 [(0, .ref 22)] [] m (some (.int r)) m' ∧ PL m' := by
  unfold P_Parser_takeTitle_89 at h
  refine ai (p_aload_n (pc := 89) (k := 0) (by decide +kernel : decode k_P_Parser_takeTitle.2.1 89 = .ok (.aload_n 0, 1)) rfl rfl) ?_
  obtain ⟨r1, m2, hr1, h⟩ := bn_some h
  have q3 := P_Parser_takeName_run hL hr1
  have c4 := (PC_22 hL).1
  have hL := q3.2
  refine ai (q_callV (pc := 90) (As := []) (st := []) (st2 := [.int r1]) (b := 22) rfl rfl (by decide +kernel : decode k_P_Parser_takeTitle.2.1 90 = .ok (.invokevirtual 168, 3)) lc_6_168 mo_P_Parser_takeName ⟨Nat.le_of_ble_eq_true rfl, Nat.le_of_ble_eq_true rfl⟩ (Nat.le_of_ble_eq_true rfl) (Nat.le_of_ble_eq_true rfl) c4 q3.1) ?_
  refine ai (e_istore_n (pc := 93) rfl (by decide +kernel : decode k_P_Parser_takeTitle.2.1 93 = .ok (.istore_n 2, 1)) rfl (by decide) rfl) ?_
  refine ai (p_aload_n (pc := 94) (k := 1) (by decide +kernel : decode k_P_Parser_takeTitle.2.1 94 = .ok (.aload_n 0, 1)) rfl rfl) ?_
  refine ai (p_aload_n (pc := 95) (k := 1) (by decide +kernel : decode k_P_Parser_takeTitle.2.1 95 = .ok (.aload_n 0, 1)) rfl rfl) ?_
  refine ai (r_getI (pc := 96) (by decide +kernel : decode k_P_Parser_takeTitle.2.1 96 = .ok (.getfield 161, 3)) lg_6_161 (by decide) (PC_22 hL).1) ?_
  have c5 := (PC_22 hL).1
  obtain ⟨m6, hm6, h⟩ := vb_some h
  have hL : PL m6 := by rw [hm6]; exact hL
  refine ai (p_putI (pc := 99) hm6 (by decide +kernel : decode k_P_Parser_takeTitle.2.1 99 = .ok (.putfield 87, 3)) lp_6_87 c5) ?_
  refine ai (r_iload_n (pc := 102) (k := 0) (by decide +kernel : decode k_P_Parser_takeTitle.2.1 102 = .ok (.iload_n 2, 1)) rfl rfl) ?_
  obtain ⟨z7, h⟩ := gz_some h
  cases h
  exact ⟨r_zret z7 rfl (by decide +kernel : decode k_P_Parser_takeTitle.2.1 103 = .ok (.ireturn, 1)), hL⟩
set_option maxRecDepth 100000 in
set_option maxHeartbeats 4000000 in
theorem P_Parser_takeTitle_73_run {x1 : Int32} {m m' : Mem} {r : Int32} (hL : PL m) (h : P_Parser_takeTitle_73 x1 m = some (r, m')) : Run k_P_Parser_takeTitle 73 [(0, .ref 22), (1, .int x1)] [] m (some (.int r)) m' ∧ PL m' := by
  unfold P_Parser_takeTitle_73 at h
  refine ai (p_aload_n (pc := 73) (k := 0) (by decide +kernel : decode k_P_Parser_takeTitle.2.1 73 = .ok (.aload_n 0, 1)) rfl rfl) ?_
  refine ai (r_getI (pc := 74) (by decide +kernel : decode k_P_Parser_takeTitle.2.1 74 = .ok (.getfield 84, 3)) lg_6_84 (by decide) (PC_22 hL).1) ?_
  rcases ite_some h with ⟨c1, h⟩ | ⟨c1, h⟩
  · refine ai (r_if_eq_t (pc := 77) (tgt := 89) (by decide +kernel : decode k_P_Parser_takeTitle.2.1 77 = .ok (.ifCond .eq (12), 3)) (by decide) c1) ?_
    exact (ai (r_sub [0] rfl) (P_Parser_takeTitle_89_run hL h))
  · refine ai (r_if_eq_f (pc := 77) 89 (by decide +kernel : decode k_P_Parser_takeTitle.2.1 77 = .ok (.ifCond .eq (12), 3)) (by decide) c1) ?_
    refine ai (r_iload_n (pc := 80) (k := 1) (by decide +kernel : decode k_P_Parser_takeTitle.2.1 80 = .ok (.iload_n 1, 1)) rfl rfl) ?_
    rcases ite_some h with ⟨c2, h⟩ | ⟨c2, h⟩
    · refine ai (r_if_ne_f (pc := 81) 89 (by decide +kernel : decode k_P_Parser_takeTitle.2.1 81 = .ok (.ifCond .ne (8), 3)) (by decide) c2) ?_
      refine ai (p_aload_n (pc := 84) (k := 0) (by decide +kernel : decode k_P_Parser_takeTitle.2.1 84 = .ok (.aload_n 0, 1)) rfl rfl) ?_
      refine ai (r_iconst (pc := 85) (by decide +kernel : decode k_P_Parser_takeTitle.2.1 85 = .ok (.iconst 4, 1)) ic_4) ?_
      obtain ⟨r3, m4, hr3, h⟩ := bn_some h
      have q5 := P_Parser_noteLate_run hL hr3
      have c6 := (PC_22 hL).1
      have hL := q5.2
      refine ai (q_callV (pc := 86) (As := [.int 4]) (st := []) (st2 := []) (b := 22) rfl rfl (by decide +kernel : decode k_P_Parser_takeTitle.2.1 86 = .ok (.invokevirtual 164, 3)) lc_6_164 mo_P_Parser_noteLate ⟨Nat.le_of_ble_eq_true rfl, Nat.le_of_ble_eq_true rfl⟩ (Nat.le_of_ble_eq_true rfl) (Nat.le_of_ble_eq_true rfl) c6 q5.1) ?_
      exact (ai (r_sub [0] rfl) (P_Parser_takeTitle_89_run hL h))
    · refine ai (r_if_ne_t (pc := 81) (tgt := 89) (by decide +kernel : decode k_P_Parser_takeTitle.2.1 81 = .ok (.ifCond .ne (8), 3)) (by decide) c2) ?_
      exact (ai (r_sub [0] rfl) (P_Parser_takeTitle_89_run hL h))
set_option maxRecDepth 100000 in
set_option maxHeartbeats 4000000 in
theorem P_Parser_takeTitle_53_run {s0 : Int32} {m m' : Mem} {r : Int32} (hL : PL m) (h : P_Parser_takeTitle_53 s0 m = some (r, m')) : Run k_P_Parser_takeTitle 53 [(0, .ref 22)] [.int s0] m (some (.int r)) m' ∧ PL m' := by
  unfold P_Parser_takeTitle_53 at h
  refine ai (e_istore_n (pc := 53) rfl (by decide +kernel : decode k_P_Parser_takeTitle.2.1 53 = .ok (.istore_n 1, 1)) rfl (by decide) rfl) ?_
  refine ai (p_aload_n (pc := 54) (k := 1) (by decide +kernel : decode k_P_Parser_takeTitle.2.1 54 = .ok (.aload_n 0, 1)) rfl rfl) ?_
  refine ai (r_getI (pc := 55) (by decide +kernel : decode k_P_Parser_takeTitle.2.1 55 = .ok (.getfield 84, 3)) lg_6_84 (by decide) (PC_22 hL).1) ?_
  rcases ite_some h with ⟨c1, h⟩ | ⟨c1, h⟩
  · refine ai (r_if_ne_f (pc := 58) 73 (by decide +kernel : decode k_P_Parser_takeTitle.2.1 58 = .ok (.ifCond .ne (15), 3)) (by decide) c1) ?_
    refine ai (r_iload_n (pc := 61) (k := 0) (by decide +kernel : decode k_P_Parser_takeTitle.2.1 61 = .ok (.iload_n 1, 1)) rfl rfl) ?_
    rcases ite_some h with ⟨c2, h⟩ | ⟨c2, h⟩
    · refine ai (r_if_eq_t (pc := 62) (tgt := 73) (by decide +kernel : decode k_P_Parser_takeTitle.2.1 62 = .ok (.ifCond .eq (11), 3)) (by decide) c2) ?_
      exact (ai (r_sub [1, 0] rfl) (P_Parser_takeTitle_73_run hL h))
    · refine ai (r_if_eq_f (pc := 62) 73 (by decide +kernel : decode k_P_Parser_takeTitle.2.1 62 = .ok (.ifCond .eq (11), 3)) (by decide) c2) ?_
      refine ai (p_aload_n (pc := 65) (k := 1) (by decide +kernel : decode k_P_Parser_takeTitle.2.1 65 = .ok (.aload_n 0, 1)) rfl rfl) ?_
      refine ai (r_iconst (pc := 66) (by decide +kernel : decode k_P_Parser_takeTitle.2.1 66 = .ok (.iconst 3, 1)) ic_3) ?_
      obtain ⟨r3, m4, hr3, h⟩ := bn_some h
      have q5 := P_Parser_noteLate_run hL hr3
      have c6 := (PC_22 hL).1
      have hL := q5.2
      refine ai (q_callV (pc := 67) (As := [.int 3]) (st := []) (st2 := []) (b := 22) rfl rfl (by decide +kernel : decode k_P_Parser_takeTitle.2.1 67 = .ok (.invokevirtual 164, 3)) lc_6_164 mo_P_Parser_noteLate ⟨Nat.le_of_ble_eq_true rfl, Nat.le_of_ble_eq_true rfl⟩ (Nat.le_of_ble_eq_true rfl) (Nat.le_of_ble_eq_true rfl) c6 q5.1) ?_
      refine ai (r_goto (pc := 70) (tgt := 89) (by decide +kernel : decode k_P_Parser_takeTitle.2.1 70 = .ok (.goto (19), 3)) (by decide)) ?_
      exact (ai (r_sub [1] rfl) (P_Parser_takeTitle_89_run hL h))
  · refine ai (r_if_ne_t (pc := 58) (tgt := 73) (by decide +kernel : decode k_P_Parser_takeTitle.2.1 58 = .ok (.ifCond .ne (15), 3)) (by decide) c1) ?_
    exact (ai (r_sub [1, 0] rfl) (P_Parser_takeTitle_73_run hL h))
set_option maxRecDepth 100000 in
set_option maxHeartbeats 4000000 in
theorem P_Parser_takeTitle_run {m m' : Mem} {r : Int32} (hL : PL m) (h : P_Parser_takeTitle m = some (r, m')) : Run k_P_Parser_takeTitle 0 [(0, .ref 22)] [] m (some (.int r)) m' ∧ PL m' := by
  unfold P_Parser_takeTitle at h
  refine ai (p_aload_n (pc := 0) (k := 0) (by decide +kernel : decode k_P_Parser_takeTitle.2.1 0 = .ok (.aload_n 0, 1)) rfl rfl) ?_
  refine ai (p_getr (pc := 1) (PR_768_22 hL) (by decide +kernel : decode k_P_Parser_takeTitle.2.1 1 = .ok (.getfield 25, 3)) lg_6_25 (PC_22 hL).1) ?_
  refine ai (p_getr (pc := 4) (PR_642_16 hL) (by decide +kernel : decode k_P_Parser_takeTitle.2.1 4 = .ok (.getfield 42, 3)) lg_6_42 (PC_16 hL).1) ?_
  refine ai (p_aload_n (pc := 7) (k := 0) (by decide +kernel : decode k_P_Parser_takeTitle.2.1 7 = .ok (.aload_n 0, 1)) rfl rfl) ?_
  refine ai (r_getI (pc := 8) (by decide +kernel : decode k_P_Parser_takeTitle.2.1 8 = .ok (.getfield 71, 3)) lg_6_71 (by decide) (PC_22 hL).1) ?_
  obtain ⟨g1, h⟩ := gd_some h
  refine ai (p_iald (pc := 11) (by decide +kernel : decode k_P_Parser_takeTitle.2.1 11 = .ok (.iaload, 1)) (PC_18 hL).1 (PC_18 hL).2 g1) ?_
  refine ai (r_iconst (pc := 12) (by decide +kernel : decode k_P_Parser_takeTitle.2.1 12 = .ok (.iconst 2, 1)) ic_2) ?_
  rcases ite_some h with ⟨c2, h⟩ | ⟨c2, h⟩
  · refine ai (r_icmp_eq_t (pc := 13) (tgt := 22) (by decide +kernel : decode k_P_Parser_takeTitle.2.1 13 = .ok (.if_icmp .eq (9), 3)) (by decide) c2) ?_
    refine ai (p_aload_n (pc := 22) (k := 0) (by decide +kernel : decode k_P_Parser_takeTitle.2.1 22 = .ok (.aload_n 0, 1)) rfl rfl) ?_
    refine ai (p_getr (pc := 23) (PR_769_22 hL) (by decide +kernel : decode k_P_Parser_takeTitle.2.1 23 = .ok (.getfield 29, 3)) lg_6_29 (PC_22 hL).1) ?_
    refine ai (p_aload_n (pc := 26) (k := 0) (by decide +kernel : decode k_P_Parser_takeTitle.2.1 26 = .ok (.aload_n 0, 1)) rfl rfl) ?_
    refine ai (p_aload_n (pc := 27) (k := 0) (by decide +kernel : decode k_P_Parser_takeTitle.2.1 27 = .ok (.aload_n 0, 1)) rfl rfl) ?_
    refine ai (p_getr (pc := 28) (PR_768_22 hL) (by decide +kernel : decode k_P_Parser_takeTitle.2.1 28 = .ok (.getfield 25, 3)) lg_6_25 (PC_22 hL).1) ?_
    refine ai (p_getr (pc := 31) (PR_644_16 hL) (by decide +kernel : decode k_P_Parser_takeTitle.2.1 31 = .ok (.getfield 46, 3)) lg_6_46 (PC_16 hL).1) ?_
    refine ai (p_aload_n (pc := 34) (k := 0) (by decide +kernel : decode k_P_Parser_takeTitle.2.1 34 = .ok (.aload_n 0, 1)) rfl rfl) ?_
    refine ai (r_getI (pc := 35) (by decide +kernel : decode k_P_Parser_takeTitle.2.1 35 = .ok (.getfield 71, 3)) lg_6_71 (by decide) (PC_22 hL).1) ?_
    obtain ⟨g3, h⟩ := gd_some h
    refine ai (p_lald (pc := 38) (by decide +kernel : decode k_P_Parser_takeTitle.2.1 38 = .ok (.laload, 1)) (PC_20 hL).1 (PC_20 hL).2 g3) ?_
    obtain ⟨r4, m5, hr4, h⟩ := bn_some h
    have q6 := P_Parser_numberOf_run hL hr4
    have c7 := (PC_22 hL).1
    have hL := q6.2
    refine ai (q_callV (pc := 39) (As := [.long (aL m 20 (ix (mI m 779 22)))]) (st := [.ref 13]) (st2 := [.int r4, .ref 13]) (b := 22) rfl rfl (by decide +kernel : decode k_P_Parser_takeTitle.2.1 39 = .ok (.invokevirtual 49, 3)) lc_6_49 mo_P_Parser_numberOf ⟨Nat.le_of_ble_eq_true rfl, Nat.le_of_ble_eq_true rfl⟩ (Nat.le_of_ble_eq_true rfl) (Nat.le_of_ble_eq_true rfl) c7 q6.1) ?_
    obtain ⟨r8, m9, hr8, h⟩ := bn_some h
    have q10 := P_Ledger_awardNamed_run hL hr8
    have c11 := (PC_13 hL).1
    have hL := q10.2
    refine ai (q_callV (pc := 42) (As := [.int r4]) (st := []) (st2 := [va_rf r8]) (b := 13) rfl rfl (by decide +kernel : decode k_P_Parser_takeTitle.2.1 42 = .ok (.invokevirtual 90, 3)) lc_6_90 mo_P_Ledger_awardNamed ⟨Nat.le_of_ble_eq_true rfl, Nat.le_of_ble_eq_true rfl⟩ (Nat.le_of_ble_eq_true rfl) (Nat.le_of_ble_eq_true rfl) c11 q10.1) ?_
    rcases ite_some h with ⟨c12, h⟩ | ⟨c12, h⟩
    · refine ai (d_ifnull_t (pc := 45) (tgt := 52) c12 (by decide +kernel : decode k_P_Parser_takeTitle.2.1 45 = .ok (.ifnull (7), 3)) (by decide)) ?_
      refine ai (r_iconst (pc := 52) (by decide +kernel : decode k_P_Parser_takeTitle.2.1 52 = .ok (.iconst 0, 1)) ic_0) ?_
      exact (P_Parser_takeTitle_53_run hL h)
    · refine ai (d_ifnull_f (pc := 45) c12 (by decide +kernel : decode k_P_Parser_takeTitle.2.1 45 = .ok (.ifnull (7), 3))) ?_
      refine ai (r_iconst (pc := 48) (by decide +kernel : decode k_P_Parser_takeTitle.2.1 48 = .ok (.iconst 1, 1)) ic_1) ?_
      refine ai (r_goto (pc := 49) (tgt := 53) (by decide +kernel : decode k_P_Parser_takeTitle.2.1 49 = .ok (.goto (4), 3)) (by decide)) ?_
      exact (P_Parser_takeTitle_53_run hL h)
  · refine ai (r_icmp_eq_f (pc := 13) 22 (by decide +kernel : decode k_P_Parser_takeTitle.2.1 13 = .ok (.if_icmp .eq (9), 3)) (by decide) c2) ?_
    refine ai (p_aload_n (pc := 16) (k := 0) (by decide +kernel : decode k_P_Parser_takeTitle.2.1 16 = .ok (.aload_n 0, 1)) rfl rfl) ?_
    refine ai (r_iconst (pc := 17) (by decide +kernel : decode k_P_Parser_takeTitle.2.1 17 = .ok (.iconst 1, 1)) ic_1) ?_
    obtain ⟨r13, m14, hr13, h⟩ := bn_some h
    have q15 := P_Parser_fail_run hL hr13
    have c16 := (PC_22 hL).1
    have hL := q15.2
    refine ai (q_callV (pc := 18) (As := [.int 1]) (st := []) (st2 := [.int r13]) (b := 22) rfl rfl (by decide +kernel : decode k_P_Parser_takeTitle.2.1 18 = .ok (.invokevirtual 143, 3)) lc_6_143 mo_P_Parser_fail ⟨Nat.le_of_ble_eq_true rfl, Nat.le_of_ble_eq_true rfl⟩ (Nat.le_of_ble_eq_true rfl) (Nat.le_of_ble_eq_true rfl) c16 q15.1) ?_
    obtain ⟨z17, h⟩ := gz_some h
    cases h
    exact ⟨r_zret z17 rfl (by decide +kernel : decode k_P_Parser_takeTitle.2.1 21 = .ok (.ireturn, 1)), hL⟩
set_option maxRecDepth 100000 in
set_option maxHeartbeats 4000000 in
theorem P_Parser_takeKind_run {x1 : Int32} {m m' : Mem} {r : Int32} (hL : PL m) (h : P_Parser_takeKind x1 m = some (r, m')) : Run k_P_Parser_takeKind 0 [(0, .ref 22), (1, .int x1)] [] m (some (.int r)) m' ∧ PL m' := by
  unfold P_Parser_takeKind at h
  refine ai (p_aload_n (pc := 0) (k := 0) (by decide +kernel : decode k_P_Parser_takeKind.2.1 0 = .ok (.aload_n 0, 1)) rfl rfl) ?_
  refine ai (p_getr (pc := 1) (PR_768_22 hL) (by decide +kernel : decode k_P_Parser_takeKind.2.1 1 = .ok (.getfield 25, 3)) lg_6_25 (PC_22 hL).1) ?_
  refine ai (p_getr (pc := 4) (PR_642_16 hL) (by decide +kernel : decode k_P_Parser_takeKind.2.1 4 = .ok (.getfield 42, 3)) lg_6_42 (PC_16 hL).1) ?_
  refine ai (p_aload_n (pc := 7) (k := 0) (by decide +kernel : decode k_P_Parser_takeKind.2.1 7 = .ok (.aload_n 0, 1)) rfl rfl) ?_
  refine ai (r_getI (pc := 8) (by decide +kernel : decode k_P_Parser_takeKind.2.1 8 = .ok (.getfield 71, 3)) lg_6_71 (by decide) (PC_22 hL).1) ?_
  obtain ⟨g1, h⟩ := gd_some h
  refine ai (p_iald (pc := 11) (by decide +kernel : decode k_P_Parser_takeKind.2.1 11 = .ok (.iaload, 1)) (PC_18 hL).1 (PC_18 hL).2 g1) ?_
  refine ai (r_iload_n (pc := 12) (k := 1) (by decide +kernel : decode k_P_Parser_takeKind.2.1 12 = .ok (.iload_n 1, 1)) rfl rfl) ?_
  rcases ite_some h with ⟨c2, h⟩ | ⟨c2, h⟩
  · refine ai (r_icmp_ne_f (pc := 13) 23 (by decide +kernel : decode k_P_Parser_takeKind.2.1 13 = .ok (.if_icmp .ne (10), 3)) (by decide) c2) ?_
    refine ai (p_aload_n (pc := 16) (k := 0) (by decide +kernel : decode k_P_Parser_takeKind.2.1 16 = .ok (.aload_n 0, 1)) rfl rfl) ?_
    obtain ⟨r3, m4, hr3, h⟩ := bn_some h
    have q5 := P_Parser_take_run hL hr3
    have c6 := (PC_22 hL).1
    have hL := q5.2
    refine ai (q_callV (pc := 17) (As := []) (st := []) (st2 := [.int r3]) (b := 22) rfl rfl (by decide +kernel : decode k_P_Parser_takeKind.2.1 17 = .ok (.invokevirtual 147, 3)) lc_6_147 mo_P_Parser_take ⟨Nat.le_of_ble_eq_true rfl, Nat.le_of_ble_eq_true rfl⟩ (Nat.le_of_ble_eq_true rfl) (Nat.le_of_ble_eq_true rfl) c6 q5.1) ?_
    refine ai (r_goto (pc := 20) (tgt := 28) (by decide +kernel : decode k_P_Parser_takeKind.2.1 20 = .ok (.goto (8), 3)) (by decide)) ?_
    obtain ⟨z7, h⟩ := gz_some h
    cases h
    exact ⟨r_zret z7 rfl (by decide +kernel : decode k_P_Parser_takeKind.2.1 28 = .ok (.ireturn, 1)), hL⟩
  · refine ai (r_icmp_ne_t (pc := 13) (tgt := 23) (by decide +kernel : decode k_P_Parser_takeKind.2.1 13 = .ok (.if_icmp .ne (10), 3)) (by decide) c2) ?_
    refine ai (p_aload_n (pc := 23) (k := 0) (by decide +kernel : decode k_P_Parser_takeKind.2.1 23 = .ok (.aload_n 0, 1)) rfl rfl) ?_
    refine ai (r_iconst (pc := 24) (by decide +kernel : decode k_P_Parser_takeKind.2.1 24 = .ok (.iconst 1, 1)) ic_1) ?_
    obtain ⟨r8, m9, hr8, h⟩ := bn_some h
    have q10 := P_Parser_fail_run hL hr8
    have c11 := (PC_22 hL).1
    have hL := q10.2
    refine ai (q_callV (pc := 25) (As := [.int 1]) (st := []) (st2 := [.int r8]) (b := 22) rfl rfl (by decide +kernel : decode k_P_Parser_takeKind.2.1 25 = .ok (.invokevirtual 143, 3)) lc_6_143 mo_P_Parser_fail ⟨Nat.le_of_ble_eq_true rfl, Nat.le_of_ble_eq_true rfl⟩ (Nat.le_of_ble_eq_true rfl) (Nat.le_of_ble_eq_true rfl) c11 q10.1) ?_
    obtain ⟨z12, h⟩ := gz_some h
    cases h
    exact ⟨r_zret z12 rfl (by decide +kernel : decode k_P_Parser_takeKind.2.1 28 = .ok (.ireturn, 1)), hL⟩
set_option maxRecDepth 100000 in
set_option maxHeartbeats 4000000 in
theorem P_Parser_takeInt_60_run {m m' : Mem} {r : Int32} (hL : PL m) (h : P_Parser_takeInt_60 m = some (r, m')) : Run k_P_Parser_takeInt 60 [(0, .ref 22)] [] m (some (.int r)) m' ∧ PL m' := by
  unfold P_Parser_takeInt_60 at h
  refine ai (p_aload_n (pc := 60) (k := 0) (by decide +kernel : decode k_P_Parser_takeInt.2.1 60 = .ok (.aload_n 0, 1)) rfl rfl) ?_
  obtain ⟨r1, m2, hr1, h⟩ := bn_some h
  have q3 := P_Parser_take_run hL hr1
  have c4 := (PC_22 hL).1
  have hL := q3.2
  refine ai (q_callV (pc := 61) (As := []) (st := []) (st2 := [.int r1]) (b := 22) rfl rfl (by decide +kernel : decode k_P_Parser_takeInt.2.1 61 = .ok (.invokevirtual 147, 3)) lc_6_147 mo_P_Parser_take ⟨Nat.le_of_ble_eq_true rfl, Nat.le_of_ble_eq_true rfl⟩ (Nat.le_of_ble_eq_true rfl) (Nat.le_of_ble_eq_true rfl) c4 q3.1) ?_
  obtain ⟨z5, h⟩ := gz_some h
  cases h
  exact ⟨r_zret z5 rfl (by decide +kernel : decode k_P_Parser_takeInt.2.1 64 = .ok (.ireturn, 1)), hL⟩
set_option maxRecDepth 100000 in
set_option maxHeartbeats 4000000 in
theorem P_Parser_takeInt_55_run {m m' : Mem} {r : Int32} (hL : PL m) (h : P_Parser_takeInt_55 m = some (r, m')) : Run k_P_Parser_takeInt 55 [(0, .ref 22)] [] m (some (.int r)) m' ∧ PL m' := by
  unfold P_Parser_takeInt_55 at h
  refine ai (p_aload_n (pc := 55) (k := 0) (by decide +kernel : decode k_P_Parser_takeInt.2.1 55 = .ok (.aload_n 0, 1)) rfl rfl) ?_
  refine ai (r_iconst (pc := 56) (by decide +kernel : decode k_P_Parser_takeInt.2.1 56 = .ok (.iconst 5, 1)) ic_5) ?_
  obtain ⟨r1, m2, hr1, h⟩ := bn_some h
  have q3 := P_Parser_noteLate_run hL hr1
  have c4 := (PC_22 hL).1
  have hL := q3.2
  refine ai (q_callV (pc := 57) (As := [.int 5]) (st := []) (st2 := []) (b := 22) rfl rfl (by decide +kernel : decode k_P_Parser_takeInt.2.1 57 = .ok (.invokevirtual 164, 3)) lc_6_164 mo_P_Parser_noteLate ⟨Nat.le_of_ble_eq_true rfl, Nat.le_of_ble_eq_true rfl⟩ (Nat.le_of_ble_eq_true rfl) (Nat.le_of_ble_eq_true rfl) c4 q3.1) ?_
  exact (P_Parser_takeInt_60_run hL h)
set_option maxRecDepth 100000 in
set_option maxHeartbeats 4000000 in
theorem P_Parser_takeInt_run {x1 : Int32} {x2 : Int32} {m m' : Mem} {r : Int32} (hL : PL m) (h : P_Parser_takeInt x1 x2 m = some (r, m')) : Run k_P_Parser_takeInt 0 [(0, .ref 22), (1, .int x1), (2, .int x2)] [] m (some (.int r)) m' ∧ PL m' := by
  unfold P_Parser_takeInt at h
  refine ai (p_aload_n (pc := 0) (k := 0) (by decide +kernel : decode k_P_Parser_takeInt.2.1 0 = .ok (.aload_n 0, 1)) rfl rfl) ?_
  refine ai (p_getr (pc := 1) (PR_768_22 hL) (by decide +kernel : decode k_P_Parser_takeInt.2.1 1 = .ok (.getfield 25, 3)) lg_6_25 (PC_22 hL).1) ?_
  refine ai (p_getr (pc := 4) (PR_642_16 hL) (by decide +kernel : decode k_P_Parser_takeInt.2.1 4 = .ok (.getfield 42, 3)) lg_6_42 (PC_16 hL).1) ?_
  refine ai (p_aload_n (pc := 7) (k := 0) (by decide +kernel : decode k_P_Parser_takeInt.2.1 7 = .ok (.aload_n 0, 1)) rfl rfl) ?_
  refine ai (r_getI (pc := 8) (by decide +kernel : decode k_P_Parser_takeInt.2.1 8 = .ok (.getfield 71, 3)) lg_6_71 (by decide) (PC_22 hL).1) ?_
  obtain ⟨g1, h⟩ := gd_some h
  refine ai (p_iald (pc := 11) (by decide +kernel : decode k_P_Parser_takeInt.2.1 11 = .ok (.iaload, 1)) (PC_18 hL).1 (PC_18 hL).2 g1) ?_
  refine ai (r_iconst (pc := 12) (by decide +kernel : decode k_P_Parser_takeInt.2.1 12 = .ok (.iconst 3, 1)) ic_3) ?_
  rcases ite_some h with ⟨c2, h⟩ | ⟨c2, h⟩
  · refine ai (r_icmp_eq_t (pc := 13) (tgt := 22) (by decide +kernel : decode k_P_Parser_takeInt.2.1 13 = .ok (.if_icmp .eq (9), 3)) (by decide) c2) ?_
    refine ai (p_aload_n (pc := 22) (k := 0) (by decide +kernel : decode k_P_Parser_takeInt.2.1 22 = .ok (.aload_n 0, 1)) rfl rfl) ?_
    refine ai (p_aload_n (pc := 23) (k := 0) (by decide +kernel : decode k_P_Parser_takeInt.2.1 23 = .ok (.aload_n 0, 1)) rfl rfl) ?_
    refine ai (p_getr (pc := 24) (PR_768_22 hL) (by decide +kernel : decode k_P_Parser_takeInt.2.1 24 = .ok (.getfield 25, 3)) lg_6_25 (PC_22 hL).1) ?_
    refine ai (p_getr (pc := 27) (PR_644_16 hL) (by decide +kernel : decode k_P_Parser_takeInt.2.1 27 = .ok (.getfield 46, 3)) lg_6_46 (PC_16 hL).1) ?_
    refine ai (p_aload_n (pc := 30) (k := 0) (by decide +kernel : decode k_P_Parser_takeInt.2.1 30 = .ok (.aload_n 0, 1)) rfl rfl) ?_
    refine ai (r_getI (pc := 31) (by decide +kernel : decode k_P_Parser_takeInt.2.1 31 = .ok (.getfield 71, 3)) lg_6_71 (by decide) (PC_22 hL).1) ?_
    obtain ⟨g3, h⟩ := gd_some h
    refine ai (p_lald (pc := 34) (by decide +kernel : decode k_P_Parser_takeInt.2.1 34 = .ok (.laload, 1)) (PC_20 hL).1 (PC_20 hL).2 g3) ?_
    refine ai (r_l2i (pc := 35) (by decide +kernel : decode k_P_Parser_takeInt.2.1 35 = .ok (.l2i, 1))) ?_
    have c4 := (PC_22 hL).1
    obtain ⟨m5, hm5, h⟩ := vb_some h
    have hL : PL m5 := by rw [hm5]; exact hL
    refine ai (p_putI (pc := 36) hm5 (by decide +kernel : decode k_P_Parser_takeInt.2.1 36 = .ok (.putfield 161, 3)) lp_6_161 c4) ?_
    refine ai (p_aload_n (pc := 39) (k := 0) (by decide +kernel : decode k_P_Parser_takeInt.2.1 39 = .ok (.aload_n 0, 1)) rfl rfl) ?_
    refine ai (r_getI (pc := 40) (by decide +kernel : decode k_P_Parser_takeInt.2.1 40 = .ok (.getfield 161, 3)) lg_6_161 (by decide) (PC_22 hL).1) ?_
    refine ai (r_iload_n (pc := 43) (k := 1) (by decide +kernel : decode k_P_Parser_takeInt.2.1 43 = .ok (.iload_n 1, 1)) rfl rfl) ?_
    rcases ite_some h with ⟨c6, h⟩ | ⟨c6, h⟩
    · refine ai (r_icmp_lt_t (pc := 44) (tgt := 55) (by decide +kernel : decode k_P_Parser_takeInt.2.1 44 = .ok (.if_icmp .lt (11), 3)) (by decide) c6) ?_
      exact (ai (r_sub [0] rfl) (P_Parser_takeInt_55_run hL h))
    · refine ai (r_icmp_lt_f (pc := 44) 55 (by decide +kernel : decode k_P_Parser_takeInt.2.1 44 = .ok (.if_icmp .lt (11), 3)) (by decide) c6) ?_
      refine ai (p_aload_n (pc := 47) (k := 0) (by decide +kernel : decode k_P_Parser_takeInt.2.1 47 = .ok (.aload_n 0, 1)) rfl rfl) ?_
      refine ai (r_getI (pc := 48) (by decide +kernel : decode k_P_Parser_takeInt.2.1 48 = .ok (.getfield 161, 3)) lg_6_161 (by decide) (PC_22 hL).1) ?_
      refine ai (r_iload_n (pc := 51) (k := 2) (by decide +kernel : decode k_P_Parser_takeInt.2.1 51 = .ok (.iload_n 2, 1)) rfl rfl) ?_
      rcases ite_some h with ⟨c7, h⟩ | ⟨c7, h⟩
      · refine ai (r_icmp_le_t (pc := 52) (tgt := 60) (by decide +kernel : decode k_P_Parser_takeInt.2.1 52 = .ok (.if_icmp .le (8), 3)) (by decide) c7) ?_
        exact (ai (r_sub [0] rfl) (P_Parser_takeInt_60_run hL h))
      · refine ai (r_icmp_le_f (pc := 52) 60 (by decide +kernel : decode k_P_Parser_takeInt.2.1 52 = .ok (.if_icmp .le (8), 3)) (by decide) c7) ?_
        exact (ai (r_sub [0] rfl) (P_Parser_takeInt_55_run hL h))
  · refine ai (r_icmp_eq_f (pc := 13) 22 (by decide +kernel : decode k_P_Parser_takeInt.2.1 13 = .ok (.if_icmp .eq (9), 3)) (by decide) c2) ?_
    refine ai (p_aload_n (pc := 16) (k := 0) (by decide +kernel : decode k_P_Parser_takeInt.2.1 16 = .ok (.aload_n 0, 1)) rfl rfl) ?_
    refine ai (r_iconst (pc := 17) (by decide +kernel : decode k_P_Parser_takeInt.2.1 17 = .ok (.iconst 1, 1)) ic_1) ?_
    obtain ⟨r8, m9, hr8, h⟩ := bn_some h
    have q10 := P_Parser_fail_run hL hr8
    have c11 := (PC_22 hL).1
    have hL := q10.2
    refine ai (q_callV (pc := 18) (As := [.int 1]) (st := []) (st2 := [.int r8]) (b := 22) rfl rfl (by decide +kernel : decode k_P_Parser_takeInt.2.1 18 = .ok (.invokevirtual 143, 3)) lc_6_143 mo_P_Parser_fail ⟨Nat.le_of_ble_eq_true rfl, Nat.le_of_ble_eq_true rfl⟩ (Nat.le_of_ble_eq_true rfl) (Nat.le_of_ble_eq_true rfl) c11 q10.1) ?_
    obtain ⟨z12, h⟩ := gz_some h
    cases h
    exact ⟨r_zret z12 rfl (by decide +kernel : decode k_P_Parser_takeInt.2.1 21 = .ok (.ireturn, 1)), hL⟩
set_option maxRecDepth 100000 in
set_option maxHeartbeats 4000000 in
theorem P_Parser_takeHead_90_run {m m' : Mem} {r : Int32} (hL : PL m) (h : P_Parser_takeHead_90 m = some (r, m')) : Run k_P_Parser_takeHead 90 [(0, .ref 22)] [] m (some (.int r)) m' ∧ PL m' := by
  unfold P_Parser_takeHead_90 at h
  refine ai (p_aload_n (pc := 90) (k := 0) (by decide +kernel : decode k_P_Parser_takeHead.2.1 90 = .ok (.aload_n 0, 1)) rfl rfl) ?_
  refine ai (r_bipush (pc := 91) (by decide +kernel : decode k_P_Parser_takeHead.2.1 91 = .ok (.bipush (46), 2)) (by decide : _ = (46 : Int32))) ?_
  obtain ⟨r1, m2, hr1, h⟩ := bn_some h
  have q3 := P_Parser_takeKind_run hL hr1
  have c4 := (PC_22 hL).1
  have hL := q3.2
  refine ai (q_callV (pc := 93) (As := [.int 46]) (st := []) (st2 := [.int r1]) (b := 22) rfl rfl (by decide +kernel : decode k_P_Parser_takeHead.2.1 93 = .ok (.invokevirtual 154, 3)) lc_6_154 mo_P_Parser_takeKind ⟨Nat.le_of_ble_eq_true rfl, Nat.le_of_ble_eq_true rfl⟩ (Nat.le_of_ble_eq_true rfl) (Nat.le_of_ble_eq_true rfl) c4 q3.1) ?_
  rcases ite_some h with ⟨c5, h⟩ | ⟨c5, h⟩
  · refine ai (r_if_eq_t (pc := 96) (tgt := 110) (by decide +kernel : decode k_P_Parser_takeHead.2.1 96 = .ok (.ifCond .eq (14), 3)) (by decide) c5) ?_
    refine ai (r_iconst (pc := 110) (by decide +kernel : decode k_P_Parser_takeHead.2.1 110 = .ok (.iconst 0, 1)) ic_0) ?_
    cases h
    exact ⟨r_zret (by decide) rfl (by decide +kernel : decode k_P_Parser_takeHead.2.1 111 = .ok (.ireturn, 1)), hL⟩
  · refine ai (r_if_eq_f (pc := 96) 110 (by decide +kernel : decode k_P_Parser_takeHead.2.1 96 = .ok (.ifCond .eq (14), 3)) (by decide) c5) ?_
    refine ai (p_aload_n (pc := 99) (k := 0) (by decide +kernel : decode k_P_Parser_takeHead.2.1 99 = .ok (.aload_n 0, 1)) rfl rfl) ?_
    refine ai (r_iconst (pc := 100) (by decide +kernel : decode k_P_Parser_takeHead.2.1 100 = .ok (.iconst 0, 1)) ic_0) ?_
    refine ai (r_sipush (pc := 101) (by decide +kernel : decode k_P_Parser_takeHead.2.1 101 = .ok (.sipush (139), 3)) (by decide : _ = (139 : Int32))) ?_
    obtain ⟨r6, m7, hr6, h⟩ := bn_some h
    have q8 := P_Parser_takeInt_run hL hr6
    have c9 := (PC_22 hL).1
    have hL := q8.2
    refine ai (q_callV (pc := 104) (As := [.int 0, .int 139]) (st := []) (st2 := [.int r6]) (b := 22) rfl rfl (by decide +kernel : decode k_P_Parser_takeHead.2.1 104 = .ok (.invokevirtual 157, 3)) lc_6_157 mo_P_Parser_takeInt ⟨Nat.le_of_ble_eq_true rfl, Nat.le_of_ble_eq_true rfl⟩ (Nat.le_of_ble_eq_true rfl) (Nat.le_of_ble_eq_true rfl) c9 q8.1) ?_
    rcases ite_some h with ⟨c10, h⟩ | ⟨c10, h⟩
    · refine ai (r_if_ne_f (pc := 107) 112 (by decide +kernel : decode k_P_Parser_takeHead.2.1 107 = .ok (.ifCond .ne (5), 3)) (by decide) c10) ?_
      refine ai (r_iconst (pc := 110) (by decide +kernel : decode k_P_Parser_takeHead.2.1 110 = .ok (.iconst 0, 1)) ic_0) ?_
      cases h
      exact ⟨r_zret (by decide) rfl (by decide +kernel : decode k_P_Parser_takeHead.2.1 111 = .ok (.ireturn, 1)), hL⟩
    · refine ai (r_if_ne_t (pc := 107) (tgt := 112) (by decide +kernel : decode k_P_Parser_takeHead.2.1 107 = .ok (.ifCond .ne (5), 3)) (by decide) c10) ?_
      refine ai (p_aload_n (pc := 112) (k := 0) (by decide +kernel : decode k_P_Parser_takeHead.2.1 112 = .ok (.aload_n 0, 1)) rfl rfl) ?_
      refine ai (p_aload_n (pc := 113) (k := 0) (by decide +kernel : decode k_P_Parser_takeHead.2.1 113 = .ok (.aload_n 0, 1)) rfl rfl) ?_
      refine ai (r_getI (pc := 114) (by decide +kernel : decode k_P_Parser_takeHead.2.1 114 = .ok (.getfield 161, 3)) lg_6_161 (by decide) (PC_22 hL).1) ?_
      have c11 := (PC_22 hL).1
      obtain ⟨m12, hm12, h⟩ := vb_some h
      have hL : PL m12 := by rw [hm12]; exact hL
      refine ai (p_putI (pc := 117) hm12 (by decide +kernel : decode k_P_Parser_takeHead.2.1 117 = .ok (.putfield 111, 3)) lp_6_111 c11) ?_
      refine ai (p_aload_n (pc := 120) (k := 0) (by decide +kernel : decode k_P_Parser_takeHead.2.1 120 = .ok (.aload_n 0, 1)) rfl rfl) ?_
      refine ai (r_iconst (pc := 121) (by decide +kernel : decode k_P_Parser_takeHead.2.1 121 = .ok (.iconst 4, 1)) ic_4) ?_
      obtain ⟨r13, m14, hr13, h⟩ := bn_some h
      have q15 := P_Parser_takeKind_run hL hr13
      have c16 := (PC_22 hL).1
      have hL := q15.2
      refine ai (q_callV (pc := 122) (As := [.int 4]) (st := []) (st2 := [.int r13]) (b := 22) rfl rfl (by decide +kernel : decode k_P_Parser_takeHead.2.1 122 = .ok (.invokevirtual 154, 3)) lc_6_154 mo_P_Parser_takeKind ⟨Nat.le_of_ble_eq_true rfl, Nat.le_of_ble_eq_true rfl⟩ (Nat.le_of_ble_eq_true rfl) (Nat.le_of_ble_eq_true rfl) c16 q15.1) ?_
      obtain ⟨z17, h⟩ := gz_some h
      cases h
      exact ⟨r_zret z17 rfl (by decide +kernel : decode k_P_Parser_takeHead.2.1 125 = .ok (.ireturn, 1)), hL⟩
set_option maxRecDepth 100000 in
set_option maxHeartbeats 4000000 in
theorem P_Parser_takeHead_run {m m' : Mem} {r : Int32} (hL : PL m) (h : P_Parser_takeHead m = some (r, m')) : Run k_P_Parser_takeHead 0 [(0, .ref 22)] [] m (some (.int r)) m' ∧ PL m' := by
  unfold P_Parser_takeHead at h
  refine ai (p_aload_n (pc := 0) (k := 0) (by decide +kernel : decode k_P_Parser_takeHead.2.1 0 = .ok (.aload_n 0, 1)) rfl rfl) ?_
  refine ai (p_aload_n (pc := 1) (k := 0) (by decide +kernel : decode k_P_Parser_takeHead.2.1 1 = .ok (.aload_n 0, 1)) rfl rfl) ?_
  refine ai (p_getr (pc := 2) (PR_768_22 hL) (by decide +kernel : decode k_P_Parser_takeHead.2.1 2 = .ok (.getfield 25, 3)) lg_6_25 (PC_22 hL).1) ?_
  refine ai (p_getr (pc := 5) (PR_642_16 hL) (by decide +kernel : decode k_P_Parser_takeHead.2.1 5 = .ok (.getfield 42, 3)) lg_6_42 (PC_16 hL).1) ?_
  refine ai (p_aload_n (pc := 8) (k := 0) (by decide +kernel : decode k_P_Parser_takeHead.2.1 8 = .ok (.aload_n 0, 1)) rfl rfl) ?_
  refine ai (r_getI (pc := 9) (by decide +kernel : decode k_P_Parser_takeHead.2.1 9 = .ok (.getfield 71, 3)) lg_6_71 (by decide) (PC_22 hL).1) ?_
  obtain ⟨g1, h⟩ := gd_some h
  refine ai (p_iald (pc := 12) (by decide +kernel : decode k_P_Parser_takeHead.2.1 12 = .ok (.iaload, 1)) (PC_18 hL).1 (PC_18 hL).2 g1) ?_
  refine ai (r_bipush (pc := 13) (by decide +kernel : decode k_P_Parser_takeHead.2.1 13 = .ok (.bipush (41), 2)) (by decide : _ = (41 : Int32))) ?_
  refine ai (r_isub (pc := 15) (by decide +kernel : decode k_P_Parser_takeHead.2.1 15 = .ok (.isub, 1))) ?_
  have c2 := (PC_22 hL).1
  obtain ⟨m3, hm3, h⟩ := vb_some h
  have hL : PL m3 := by rw [hm3]; exact hL
  refine ai (p_putI (pc := 16) hm3 (by decide +kernel : decode k_P_Parser_takeHead.2.1 16 = .ok (.putfield 84, 3)) lp_6_84 c2) ?_
  refine ai (p_aload_n (pc := 19) (k := 0) (by decide +kernel : decode k_P_Parser_takeHead.2.1 19 = .ok (.aload_n 0, 1)) rfl rfl) ?_
  refine ai (r_getI (pc := 20) (by decide +kernel : decode k_P_Parser_takeHead.2.1 20 = .ok (.getfield 84, 3)) lg_6_84 (by decide) (PC_22 hL).1) ?_
  refine ai (r_iconst (pc := 23) (by decide +kernel : decode k_P_Parser_takeHead.2.1 23 = .ok (.iconst 0, 1)) ic_0) ?_
  refine ai (r_iconst (pc := 24) (by decide +kernel : decode k_P_Parser_takeHead.2.1 24 = .ok (.iconst 3, 1)) ic_3) ?_
  obtain ⟨r4, hr4, h⟩ := bp_some h
  refine ai (q_callSN (pc := 25) (As := [.int (mI m3 783 22), .int 0, .int 3]) (st := []) (st2 := [.int r4]) rfl rfl (by decide +kernel : decode k_P_Parser_takeHead.2.1 25 = .ok (.invokestatic 139, 3)) lc_6_139 mo_P_within ⟨Nat.le_of_ble_eq_true rfl, Nat.le_of_ble_eq_true rfl⟩ (Nat.le_of_ble_eq_true rfl) (Nat.le_of_ble_eq_true rfl) (P_within_run hr4)) ?_
  rcases ite_some h with ⟨c5, h⟩ | ⟨c5, h⟩
  · refine ai (r_if_ne_f (pc := 28) 37 (by decide +kernel : decode k_P_Parser_takeHead.2.1 28 = .ok (.ifCond .ne (9), 3)) (by decide) c5) ?_
    refine ai (p_aload_n (pc := 31) (k := 0) (by decide +kernel : decode k_P_Parser_takeHead.2.1 31 = .ok (.aload_n 0, 1)) rfl rfl) ?_
    refine ai (r_iconst (pc := 32) (by decide +kernel : decode k_P_Parser_takeHead.2.1 32 = .ok (.iconst 1, 1)) ic_1) ?_
    obtain ⟨r6, m7, hr6, h⟩ := bn_some h
    have q8 := P_Parser_fail_run hL hr6
    have c9 := (PC_22 hL).1
    have hL := q8.2
    refine ai (q_callV (pc := 33) (As := [.int 1]) (st := []) (st2 := [.int r6]) (b := 22) rfl rfl (by decide +kernel : decode k_P_Parser_takeHead.2.1 33 = .ok (.invokevirtual 143, 3)) lc_6_143 mo_P_Parser_fail ⟨Nat.le_of_ble_eq_true rfl, Nat.le_of_ble_eq_true rfl⟩ (Nat.le_of_ble_eq_true rfl) (Nat.le_of_ble_eq_true rfl) c9 q8.1) ?_
    obtain ⟨z10, h⟩ := gz_some h
    cases h
    exact ⟨r_zret z10 rfl (by decide +kernel : decode k_P_Parser_takeHead.2.1 36 = .ok (.ireturn, 1)), hL⟩
  · refine ai (r_if_ne_t (pc := 28) (tgt := 37) (by decide +kernel : decode k_P_Parser_takeHead.2.1 28 = .ok (.ifCond .ne (9), 3)) (by decide) c5) ?_
    refine ai (p_aload_n (pc := 37) (k := 0) (by decide +kernel : decode k_P_Parser_takeHead.2.1 37 = .ok (.aload_n 0, 1)) rfl rfl) ?_
    obtain ⟨r11, m12, hr11, h⟩ := bn_some h
    have q13 := P_Parser_take_run hL hr11
    have c14 := (PC_22 hL).1
    have hL := q13.2
    refine ai (q_callV (pc := 38) (As := []) (st := []) (st2 := [.int r11]) (b := 22) rfl rfl (by decide +kernel : decode k_P_Parser_takeHead.2.1 38 = .ok (.invokevirtual 147, 3)) lc_6_147 mo_P_Parser_take ⟨Nat.le_of_ble_eq_true rfl, Nat.le_of_ble_eq_true rfl⟩ (Nat.le_of_ble_eq_true rfl) (Nat.le_of_ble_eq_true rfl) c14 q13.1) ?_
    rcases ite_some h with ⟨c15, h⟩ | ⟨c15, h⟩
    · refine ai (r_if_eq_t (pc := 41) (tgt := 51) (by decide +kernel : decode k_P_Parser_takeHead.2.1 41 = .ok (.ifCond .eq (10), 3)) (by decide) c15) ?_
      refine ai (r_iconst (pc := 51) (by decide +kernel : decode k_P_Parser_takeHead.2.1 51 = .ok (.iconst 0, 1)) ic_0) ?_
      cases h
      exact ⟨r_zret (by decide) rfl (by decide +kernel : decode k_P_Parser_takeHead.2.1 52 = .ok (.ireturn, 1)), hL⟩
    · refine ai (r_if_eq_f (pc := 41) 51 (by decide +kernel : decode k_P_Parser_takeHead.2.1 41 = .ok (.ifCond .eq (10), 3)) (by decide) c15) ?_
      refine ai (p_aload_n (pc := 44) (k := 0) (by decide +kernel : decode k_P_Parser_takeHead.2.1 44 = .ok (.aload_n 0, 1)) rfl rfl) ?_
      obtain ⟨r16, m17, hr16, h⟩ := bn_some h
      have q18 := P_Parser_takeTitle_run hL hr16
      have c19 := (PC_22 hL).1
      have hL := q18.2
      refine ai (q_callV (pc := 45) (As := []) (st := []) (st2 := [.int r16]) (b := 22) rfl rfl (by decide +kernel : decode k_P_Parser_takeHead.2.1 45 = .ok (.invokevirtual 151, 3)) lc_6_151 mo_P_Parser_takeTitle ⟨Nat.le_of_ble_eq_true rfl, Nat.le_of_ble_eq_true rfl⟩ (Nat.le_of_ble_eq_true rfl) (Nat.le_of_ble_eq_true rfl) c19 q18.1) ?_
      rcases ite_some h with ⟨c20, h⟩ | ⟨c20, h⟩
      · refine ai (r_if_ne_f (pc := 48) 53 (by decide +kernel : decode k_P_Parser_takeHead.2.1 48 = .ok (.ifCond .ne (5), 3)) (by decide) c20) ?_
        refine ai (r_iconst (pc := 51) (by decide +kernel : decode k_P_Parser_takeHead.2.1 51 = .ok (.iconst 0, 1)) ic_0) ?_
        cases h
        exact ⟨r_zret (by decide) rfl (by decide +kernel : decode k_P_Parser_takeHead.2.1 52 = .ok (.ireturn, 1)), hL⟩
      · refine ai (r_if_ne_t (pc := 48) (tgt := 53) (by decide +kernel : decode k_P_Parser_takeHead.2.1 48 = .ok (.ifCond .ne (5), 3)) (by decide) c20) ?_
        refine ai (p_aload_n (pc := 53) (k := 0) (by decide +kernel : decode k_P_Parser_takeHead.2.1 53 = .ok (.aload_n 0, 1)) rfl rfl) ?_
        refine ai (r_getI (pc := 54) (by decide +kernel : decode k_P_Parser_takeHead.2.1 54 = .ok (.getfield 84, 3)) lg_6_84 (by decide) (PC_22 hL).1) ?_
        refine ai (r_iconst (pc := 57) (by decide +kernel : decode k_P_Parser_takeHead.2.1 57 = .ok (.iconst 2, 1)) ic_2) ?_
        rcases ite_some h with ⟨c21, h⟩ | ⟨c21, h⟩
        · refine ai (r_icmp_lt_t (pc := 58) (tgt := 90) (by decide +kernel : decode k_P_Parser_takeHead.2.1 58 = .ok (.if_icmp .lt (32), 3)) (by decide) c21) ?_
          exact (P_Parser_takeHead_90_run hL h)
        · refine ai (r_icmp_lt_f (pc := 58) 90 (by decide +kernel : decode k_P_Parser_takeHead.2.1 58 = .ok (.if_icmp .lt (32), 3)) (by decide) c21) ?_
          refine ai (p_aload_n (pc := 61) (k := 0) (by decide +kernel : decode k_P_Parser_takeHead.2.1 61 = .ok (.aload_n 0, 1)) rfl rfl) ?_
          refine ai (r_bipush (pc := 62) (by decide +kernel : decode k_P_Parser_takeHead.2.1 62 = .ok (.bipush (45), 2)) (by decide : _ = (45 : Int32))) ?_
          obtain ⟨r22, m23, hr22, h⟩ := bn_some h
          have q24 := P_Parser_takeKind_run hL hr22
          have c25 := (PC_22 hL).1
          have hL := q24.2
          refine ai (q_callV (pc := 64) (As := [.int 45]) (st := []) (st2 := [.int r22]) (b := 22) rfl rfl (by decide +kernel : decode k_P_Parser_takeHead.2.1 64 = .ok (.invokevirtual 154, 3)) lc_6_154 mo_P_Parser_takeKind ⟨Nat.le_of_ble_eq_true rfl, Nat.le_of_ble_eq_true rfl⟩ (Nat.le_of_ble_eq_true rfl) (Nat.le_of_ble_eq_true rfl) c25 q24.1) ?_
          rcases ite_some h with ⟨c26, h⟩ | ⟨c26, h⟩
          · refine ai (r_if_eq_t (pc := 67) (tgt := 80) (by decide +kernel : decode k_P_Parser_takeHead.2.1 67 = .ok (.ifCond .eq (13), 3)) (by decide) c26) ?_
            refine ai (r_iconst (pc := 80) (by decide +kernel : decode k_P_Parser_takeHead.2.1 80 = .ok (.iconst 0, 1)) ic_0) ?_
            cases h
            exact ⟨r_zret (by decide) rfl (by decide +kernel : decode k_P_Parser_takeHead.2.1 81 = .ok (.ireturn, 1)), hL⟩
          · refine ai (r_if_eq_f (pc := 67) 80 (by decide +kernel : decode k_P_Parser_takeHead.2.1 67 = .ok (.ifCond .eq (13), 3)) (by decide) c26) ?_
            refine ai (p_aload_n (pc := 70) (k := 0) (by decide +kernel : decode k_P_Parser_takeHead.2.1 70 = .ok (.aload_n 0, 1)) rfl rfl) ?_
            refine ai (r_iconst (pc := 71) (by decide +kernel : decode k_P_Parser_takeHead.2.1 71 = .ok (.iconst 0, 1)) ic_0) ?_
            refine ai (r_bipush (pc := 72) (by decide +kernel : decode k_P_Parser_takeHead.2.1 72 = .ok (.bipush (7), 2)) (by decide : _ = (7 : Int32))) ?_
            obtain ⟨r27, m28, hr27, h⟩ := bn_some h
            have q29 := P_Parser_takeInt_run hL hr27
            have c30 := (PC_22 hL).1
            have hL := q29.2
            refine ai (q_callV (pc := 74) (As := [.int 0, .int 7]) (st := []) (st2 := [.int r27]) (b := 22) rfl rfl (by decide +kernel : decode k_P_Parser_takeHead.2.1 74 = .ok (.invokevirtual 157, 3)) lc_6_157 mo_P_Parser_takeInt ⟨Nat.le_of_ble_eq_true rfl, Nat.le_of_ble_eq_true rfl⟩ (Nat.le_of_ble_eq_true rfl) (Nat.le_of_ble_eq_true rfl) c30 q29.1) ?_
            rcases ite_some h with ⟨c31, h⟩ | ⟨c31, h⟩
            · refine ai (r_if_ne_f (pc := 77) 82 (by decide +kernel : decode k_P_Parser_takeHead.2.1 77 = .ok (.ifCond .ne (5), 3)) (by decide) c31) ?_
              refine ai (r_iconst (pc := 80) (by decide +kernel : decode k_P_Parser_takeHead.2.1 80 = .ok (.iconst 0, 1)) ic_0) ?_
              cases h
              exact ⟨r_zret (by decide) rfl (by decide +kernel : decode k_P_Parser_takeHead.2.1 81 = .ok (.ireturn, 1)), hL⟩
            · refine ai (r_if_ne_t (pc := 77) (tgt := 82) (by decide +kernel : decode k_P_Parser_takeHead.2.1 77 = .ok (.ifCond .ne (5), 3)) (by decide) c31) ?_
              refine ai (p_aload_n (pc := 82) (k := 0) (by decide +kernel : decode k_P_Parser_takeHead.2.1 82 = .ok (.aload_n 0, 1)) rfl rfl) ?_
              refine ai (p_aload_n (pc := 83) (k := 0) (by decide +kernel : decode k_P_Parser_takeHead.2.1 83 = .ok (.aload_n 0, 1)) rfl rfl) ?_
              refine ai (r_getI (pc := 84) (by decide +kernel : decode k_P_Parser_takeHead.2.1 84 = .ok (.getfield 161, 3)) lg_6_161 (by decide) (PC_22 hL).1) ?_
              have c32 := (PC_22 hL).1
              obtain ⟨m33, hm33, h⟩ := vb_some h
              have hL : PL m33 := by rw [hm33]; exact hL
              refine ai (p_putI (pc := 87) hm33 (by decide +kernel : decode k_P_Parser_takeHead.2.1 87 = .ok (.putfield 77, 3)) lp_6_77 c32) ?_
              exact (P_Parser_takeHead_90_run hL h)
set_option maxRecDepth 100000 in
set_option maxHeartbeats 4000000 in
theorem P_Item_init_run {a0 : Nat} {x1 : Int32} {x2 : Int32} {m m' : Mem} {r : Unit} (hL : PL m) (ht : mT m a0 = 3) (h : P_Item_init a0 x1 x2 m = some (r, m')) : Run k_P_Item_init 0 [(0, .ref a0), (1, .int x1), (2, .int x2)] [] m none m' ∧ PL m' := by
  unfold P_Item_init at h
  refine ai (p_aload_n (pc := 0) (k := 0) (by decide +kernel : decode k_P_Item_init.2.1 0 = .ok (.aload_n 0, 1)) rfl rfl) ?_
  refine ai (r_objI (pc := 1) (by decide +kernel : decode k_P_Item_init.2.1 1 = .ok (.invokespecial 3, 3)) lo_2_3 lo_inst lo_code (Nat.le_of_ble_eq_true rfl) ⟨by decide, by decide⟩) ?_
  refine ai (p_aload_n (pc := 4) (k := 0) (by decide +kernel : decode k_P_Item_init.2.1 4 = .ok (.aload_n 0, 1)) rfl rfl) ?_
  refine ai (r_iconst (pc := 5) (by decide +kernel : decode k_P_Item_init.2.1 5 = .ok (.iconst (-1), 1)) ic_m1) ?_
  obtain ⟨m1, hm1, h⟩ := vb_some h
  have hL : PL m1 := by rw [hm1]; exact hL
  have t2 : mT m1 a0 = 3 := by rw [hm1]; exact ht
  refine ai (p_putI (pc := 6) hm1 (by decide +kernel : decode k_P_Item_init.2.1 6 = .ok (.putfield 9, 3)) lp_2_9 ht) ?_
  refine ai (p_aload_n (pc := 9) (k := 0) (by decide +kernel : decode k_P_Item_init.2.1 9 = .ok (.aload_n 0, 1)) rfl rfl) ?_
  refine ai (r_iconst (pc := 10) (by decide +kernel : decode k_P_Item_init.2.1 10 = .ok (.iconst (-1), 1)) ic_m1) ?_
  obtain ⟨m3, hm3, h⟩ := vb_some h
  have hL : PL m3 := by rw [hm3]; exact hL
  have t4 : mT m3 a0 = 3 := by rw [hm3]; exact t2
  refine ai (p_putI (pc := 11) hm3 (by decide +kernel : decode k_P_Item_init.2.1 11 = .ok (.putfield 15, 3)) lp_2_15 t2) ?_
  refine ai (p_aload_n (pc := 14) (k := 0) (by decide +kernel : decode k_P_Item_init.2.1 14 = .ok (.aload_n 0, 1)) rfl rfl) ?_
  refine ai (r_iconst (pc := 15) (by decide +kernel : decode k_P_Item_init.2.1 15 = .ok (.iconst (-1), 1)) ic_m1) ?_
  obtain ⟨m5, hm5, h⟩ := vb_some h
  have hL : PL m5 := by rw [hm5]; exact hL
  have t6 : mT m5 a0 = 3 := by rw [hm5]; exact t4
  refine ai (p_putI (pc := 16) hm5 (by decide +kernel : decode k_P_Item_init.2.1 16 = .ok (.putfield 18, 3)) lp_2_18 t4) ?_
  refine ai (p_aload_n (pc := 19) (k := 0) (by decide +kernel : decode k_P_Item_init.2.1 19 = .ok (.aload_n 0, 1)) rfl rfl) ?_
  refine ai (r_iconst (pc := 20) (by decide +kernel : decode k_P_Item_init.2.1 20 = .ok (.iconst 1, 1)) ic_1) ?_
  obtain ⟨m7, hm7, h⟩ := vb_some h
  have hL : PL m7 := by rw [hm7]; exact hL
  have t8 : mT m7 a0 = 3 := by rw [hm7]; exact t6
  refine ai (p_putI (pc := 21) hm7 (by decide +kernel : decode k_P_Item_init.2.1 21 = .ok (.putfield 21, 3)) lp_2_21 t6) ?_
  refine ai (p_aload_n (pc := 24) (k := 0) (by decide +kernel : decode k_P_Item_init.2.1 24 = .ok (.aload_n 0, 1)) rfl rfl) ?_
  refine ai (r_iconst (pc := 25) (by decide +kernel : decode k_P_Item_init.2.1 25 = .ok (.iconst 0, 1)) ic_0) ?_
  obtain ⟨m9, hm9, h⟩ := vb_some h
  have hL : PL m9 := by rw [hm9]; exact hL
  have t10 : mT m9 a0 = 3 := by rw [hm9]; exact t8
  refine ai (p_putI (pc := 26) hm9 (by decide +kernel : decode k_P_Item_init.2.1 26 = .ok (.putfield 24, 3)) lp_2_24 t8) ?_
  refine ai (p_aload_n (pc := 29) (k := 0) (by decide +kernel : decode k_P_Item_init.2.1 29 = .ok (.aload_n 0, 1)) rfl rfl) ?_
  refine ai (r_iload_n (pc := 30) (k := 1) (by decide +kernel : decode k_P_Item_init.2.1 30 = .ok (.iload_n 1, 1)) rfl rfl) ?_
  obtain ⟨m11, hm11, h⟩ := vb_some h
  have hL : PL m11 := by rw [hm11]; exact hL
  have t12 : mT m11 a0 = 3 := by rw [hm11]; exact t10
  refine ai (p_putI (pc := 31) hm11 (by decide +kernel : decode k_P_Item_init.2.1 31 = .ok (.putfield 27, 3)) lp_2_27 t10) ?_
  refine ai (p_aload_n (pc := 34) (k := 0) (by decide +kernel : decode k_P_Item_init.2.1 34 = .ok (.aload_n 0, 1)) rfl rfl) ?_
  refine ai (r_iload_n (pc := 35) (k := 2) (by decide +kernel : decode k_P_Item_init.2.1 35 = .ok (.iload_n 2, 1)) rfl rfl) ?_
  obtain ⟨m13, hm13, h⟩ := vb_some h
  have hL : PL m13 := by rw [hm13]; exact hL
  have t14 : mT m13 a0 = 3 := by rw [hm13]; exact t12
  refine ai (p_putI (pc := 36) hm13 (by decide +kernel : decode k_P_Item_init.2.1 36 = .ok (.putfield 30, 3)) lp_2_30 t12) ?_
  refine ai (p_aload_n (pc := 39) (k := 0) (by decide +kernel : decode k_P_Item_init.2.1 39 = .ok (.aload_n 0, 1)) rfl rfl) ?_
  refine ai (r_iconst (pc := 40) (by decide +kernel : decode k_P_Item_init.2.1 40 = .ok (.iconst 0, 1)) ic_0) ?_
  obtain ⟨g15, h⟩ := gd_some h
  obtain ⟨m16, hm16, h⟩ := vb_some h
  have hL : PL m16 := by rw [hm16]; exact PL.nw hL
  refine ai (p_newI (pc := 41) hm16 (by decide +kernel : decode k_P_Item_init.2.1 41 = .ok (.newarray .int, 2)) lw_arr_int g15) ?_
  have t18 : mT m16 (mC m13) = 32 := by rw [hm16]; exact up1_eq
  obtain ⟨t19, h⟩ := gt_some h
  obtain ⟨m20, hm20, h⟩ := vb_some h
  have hL : PL m20 := by rw [hm20]; exact PL.sR (by decide) hL
  have t21 : mT m20 (mC m13) = 32 := by rw [hm20]; exact t18
  have t22 : mT m20 a0 = 3 := by rw [hm20]; exact t19
  refine ai (p_putr (pc := 43) hm20 (by decide +kernel : decode k_P_Item_init.2.1 43 = .ok (.putfield 33, 3)) lp_2_33 t19) ?_
  refine ai (p_aload_n (pc := 46) (k := 0) (by decide +kernel : decode k_P_Item_init.2.1 46 = .ok (.aload_n 0, 1)) rfl rfl) ?_
  refine ai (r_iconst (pc := 47) (by decide +kernel : decode k_P_Item_init.2.1 47 = .ok (.iconst 0, 1)) ic_0) ?_
  obtain ⟨g23, h⟩ := gd_some h
  obtain ⟨m24, hm24, h⟩ := vb_some h
  have hL : PL m24 := by rw [hm24]; exact PL.nw hL
  refine ai (p_newI (pc := 48) hm24 (by decide +kernel : decode k_P_Item_init.2.1 48 = .ok (.newarray .int, 2)) lw_arr_int g23) ?_
  have t27 : mT m24 (mC m20) = 32 := by rw [hm24]; exact up1_eq
  obtain ⟨t28, h⟩ := gt_some h
  obtain ⟨m29, hm29, h⟩ := vb_some h
  have hL : PL m29 := by rw [hm29]; exact PL.sR (by decide) hL
  have t30 : mT m29 (mC m20) = 32 := by rw [hm29]; exact t27
  have t31 : mT m29 a0 = 3 := by rw [hm29]; exact t28
  refine ai (p_putr (pc := 50) hm29 (by decide +kernel : decode k_P_Item_init.2.1 50 = .ok (.putfield 37, 3)) lp_2_37 t28) ?_
  cases h
  exact ⟨r_vret rfl (by decide +kernel : decode k_P_Item_init.2.1 53 = .ok (.return_, 1)), hL⟩
set_option maxRecDepth 100000 in
set_option maxHeartbeats 4000000 in
theorem P_Parser_isMisplaced_20_run {x1 : Int32} {s0 : Int32} {m m' : Mem} {r : Int32} (hL : PL m) (h : P_Parser_isMisplaced_20 x1 s0 m = some (r, m')) : Run k_P_Parser_isMisplaced 20 [(1, .int x1)] [.int s0] m (some (.int r)) m' ∧ PL m' := by
  unfold P_Parser_isMisplaced_20 at h
  refine ai (e_istore_n (pc := 20) rfl (by decide +kernel : decode k_P_Parser_isMisplaced.2.1 20 = .ok (.istore_n 2, 1)) rfl (by decide) rfl) ?_
  refine ai (r_iload_n (pc := 21) (k := 0) (by decide +kernel : decode k_P_Parser_isMisplaced.2.1 21 = .ok (.iload_n 2, 1)) rfl rfl) ?_
  rcases ite_some h with ⟨c1, h⟩ | ⟨c1, h⟩
  · refine ai (r_if_eq_t (pc := 22) (tgt := 45) (by decide +kernel : decode k_P_Parser_isMisplaced.2.1 22 = .ok (.ifCond .eq (23), 3)) (by decide) c1) ?_
    refine ai (r_iload_n (pc := 45) (k := 1) (by decide +kernel : decode k_P_Parser_isMisplaced.2.1 45 = .ok (.iload_n 1, 1)) rfl rfl) ?_
    refine ai (r_bipush (pc := 46) (by decide +kernel : decode k_P_Parser_isMisplaced.2.1 46 = .ok (.bipush (32), 2)) (by decide : _ = (32 : Int32))) ?_
    rcases ite_some h with ⟨c2, h⟩ | ⟨c2, h⟩
    · refine ai (r_icmp_eq_t (pc := 48) (tgt := 57) (by decide +kernel : decode k_P_Parser_isMisplaced.2.1 48 = .ok (.if_icmp .eq (9), 3)) (by decide) c2) ?_
      refine ai (r_iconst (pc := 57) (by decide +kernel : decode k_P_Parser_isMisplaced.2.1 57 = .ok (.iconst 1, 1)) ic_1) ?_
      refine ai (r_goto (pc := 58) (tgt := 62) (by decide +kernel : decode k_P_Parser_isMisplaced.2.1 58 = .ok (.goto (4), 3)) (by decide)) ?_
      cases h
      exact ⟨r_zret (by decide) rfl (by decide +kernel : decode k_P_Parser_isMisplaced.2.1 62 = .ok (.ireturn, 1)), hL⟩
    · refine ai (r_icmp_eq_f (pc := 48) 57 (by decide +kernel : decode k_P_Parser_isMisplaced.2.1 48 = .ok (.if_icmp .eq (9), 3)) (by decide) c2) ?_
      refine ai (r_iload_n (pc := 51) (k := 1) (by decide +kernel : decode k_P_Parser_isMisplaced.2.1 51 = .ok (.iload_n 1, 1)) rfl rfl) ?_
      refine ai (r_bipush (pc := 52) (by decide +kernel : decode k_P_Parser_isMisplaced.2.1 52 = .ok (.bipush (33), 2)) (by decide : _ = (33 : Int32))) ?_
      rcases ite_some h with ⟨c3, h⟩ | ⟨c3, h⟩
      · refine ai (r_icmp_ne_f (pc := 54) 61 (by decide +kernel : decode k_P_Parser_isMisplaced.2.1 54 = .ok (.if_icmp .ne (7), 3)) (by decide) c3) ?_
        refine ai (r_iconst (pc := 57) (by decide +kernel : decode k_P_Parser_isMisplaced.2.1 57 = .ok (.iconst 1, 1)) ic_1) ?_
        refine ai (r_goto (pc := 58) (tgt := 62) (by decide +kernel : decode k_P_Parser_isMisplaced.2.1 58 = .ok (.goto (4), 3)) (by decide)) ?_
        cases h
        exact ⟨r_zret (by decide) rfl (by decide +kernel : decode k_P_Parser_isMisplaced.2.1 62 = .ok (.ireturn, 1)), hL⟩
      · refine ai (r_icmp_ne_t (pc := 54) (tgt := 61) (by decide +kernel : decode k_P_Parser_isMisplaced.2.1 54 = .ok (.if_icmp .ne (7), 3)) (by decide) c3) ?_
        refine ai (r_iconst (pc := 61) (by decide +kernel : decode k_P_Parser_isMisplaced.2.1 61 = .ok (.iconst 0, 1)) ic_0) ?_
        cases h
        exact ⟨r_zret (by decide) rfl (by decide +kernel : decode k_P_Parser_isMisplaced.2.1 62 = .ok (.ireturn, 1)), hL⟩
  · refine ai (r_if_eq_f (pc := 22) 45 (by decide +kernel : decode k_P_Parser_isMisplaced.2.1 22 = .ok (.ifCond .eq (23), 3)) (by decide) c1) ?_
    refine ai (r_iload_n (pc := 25) (k := 1) (by decide +kernel : decode k_P_Parser_isMisplaced.2.1 25 = .ok (.iload_n 1, 1)) rfl rfl) ?_
    refine ai (r_bipush (pc := 26) (by decide +kernel : decode k_P_Parser_isMisplaced.2.1 26 = .ok (.bipush (39), 2)) (by decide : _ = (39 : Int32))) ?_
    rcases ite_some h with ⟨c4, h⟩ | ⟨c4, h⟩
    · refine ai (r_icmp_eq_t (pc := 28) (tgt := 37) (by decide +kernel : decode k_P_Parser_isMisplaced.2.1 28 = .ok (.if_icmp .eq (9), 3)) (by decide) c4) ?_
      refine ai (r_iconst (pc := 37) (by decide +kernel : decode k_P_Parser_isMisplaced.2.1 37 = .ok (.iconst 1, 1)) ic_1) ?_
      refine ai (r_goto (pc := 38) (tgt := 62) (by decide +kernel : decode k_P_Parser_isMisplaced.2.1 38 = .ok (.goto (24), 3)) (by decide)) ?_
      cases h
      exact ⟨r_zret (by decide) rfl (by decide +kernel : decode k_P_Parser_isMisplaced.2.1 62 = .ok (.ireturn, 1)), hL⟩
    · refine ai (r_icmp_eq_f (pc := 28) 37 (by decide +kernel : decode k_P_Parser_isMisplaced.2.1 28 = .ok (.if_icmp .eq (9), 3)) (by decide) c4) ?_
      refine ai (r_iload_n (pc := 31) (k := 1) (by decide +kernel : decode k_P_Parser_isMisplaced.2.1 31 = .ok (.iload_n 1, 1)) rfl rfl) ?_
      refine ai (r_bipush (pc := 32) (by decide +kernel : decode k_P_Parser_isMisplaced.2.1 32 = .ok (.bipush (40), 2)) (by decide : _ = (40 : Int32))) ?_
      rcases ite_some h with ⟨c5, h⟩ | ⟨c5, h⟩
      · refine ai (r_icmp_ne_f (pc := 34) 41 (by decide +kernel : decode k_P_Parser_isMisplaced.2.1 34 = .ok (.if_icmp .ne (7), 3)) (by decide) c5) ?_
        refine ai (r_iconst (pc := 37) (by decide +kernel : decode k_P_Parser_isMisplaced.2.1 37 = .ok (.iconst 1, 1)) ic_1) ?_
        refine ai (r_goto (pc := 38) (tgt := 62) (by decide +kernel : decode k_P_Parser_isMisplaced.2.1 38 = .ok (.goto (24), 3)) (by decide)) ?_
        cases h
        exact ⟨r_zret (by decide) rfl (by decide +kernel : decode k_P_Parser_isMisplaced.2.1 62 = .ok (.ireturn, 1)), hL⟩
      · refine ai (r_icmp_ne_t (pc := 34) (tgt := 41) (by decide +kernel : decode k_P_Parser_isMisplaced.2.1 34 = .ok (.if_icmp .ne (7), 3)) (by decide) c5) ?_
        refine ai (r_iconst (pc := 41) (by decide +kernel : decode k_P_Parser_isMisplaced.2.1 41 = .ok (.iconst 0, 1)) ic_0) ?_
        refine ai (r_goto (pc := 42) (tgt := 62) (by decide +kernel : decode k_P_Parser_isMisplaced.2.1 42 = .ok (.goto (20), 3)) (by decide)) ?_
        cases h
        exact ⟨r_zret (by decide) rfl (by decide +kernel : decode k_P_Parser_isMisplaced.2.1 62 = .ok (.ireturn, 1)), hL⟩
set_option maxRecDepth 100000 in
set_option maxHeartbeats 4000000 in
theorem P_Parser_isMisplaced_15_run {x1 : Int32} {m m' : Mem} {r : Int32} (hL : PL m) (h : P_Parser_isMisplaced_15 x1 m = some (r, m')) : Run k_P_Parser_isMisplaced 15 [(1, .int x1)] [] m (some (.int r)) m' ∧ PL m' := by
  unfold P_Parser_isMisplaced_15 at h
  refine ai (r_iconst (pc := 15) (by decide +kernel : decode k_P_Parser_isMisplaced.2.1 15 = .ok (.iconst 1, 1)) ic_1) ?_
  refine ai (r_goto (pc := 16) (tgt := 20) (by decide +kernel : decode k_P_Parser_isMisplaced.2.1 16 = .ok (.goto (4), 3)) (by decide)) ?_
  exact (P_Parser_isMisplaced_20_run hL h)
set_option maxRecDepth 100000 in
set_option maxHeartbeats 4000000 in
theorem P_Parser_isMisplaced_run {x1 : Int32} {m m' : Mem} {r : Int32} (hL : PL m) (h : P_Parser_isMisplaced x1 m = some (r, m')) : Run k_P_Parser_isMisplaced 0 [(0, .ref 22), (1, .int x1)] [] m (some (.int r)) m' ∧ PL m' := by
  unfold P_Parser_isMisplaced at h
  refine ai (p_aload_n (pc := 0) (k := 0) (by decide +kernel : decode k_P_Parser_isMisplaced.2.1 0 = .ok (.aload_n 0, 1)) rfl rfl) ?_
  refine ai (r_getI (pc := 1) (by decide +kernel : decode k_P_Parser_isMisplaced.2.1 1 = .ok (.getfield 84, 3)) lg_6_84 (by decide) (PC_22 hL).1) ?_
  rcases ite_some h with ⟨c1, h⟩ | ⟨c1, h⟩
  · refine ai (r_if_eq_t (pc := 4) (tgt := 15) (by decide +kernel : decode k_P_Parser_isMisplaced.2.1 4 = .ok (.ifCond .eq (11), 3)) (by decide) c1) ?_
    exact (ai (r_sub [1] rfl) (P_Parser_isMisplaced_15_run hL h))
  · refine ai (r_if_eq_f (pc := 4) 15 (by decide +kernel : decode k_P_Parser_isMisplaced.2.1 4 = .ok (.ifCond .eq (11), 3)) (by decide) c1) ?_
    refine ai (p_aload_n (pc := 7) (k := 0) (by decide +kernel : decode k_P_Parser_isMisplaced.2.1 7 = .ok (.aload_n 0, 1)) rfl rfl) ?_
    refine ai (r_getI (pc := 8) (by decide +kernel : decode k_P_Parser_isMisplaced.2.1 8 = .ok (.getfield 84, 3)) lg_6_84 (by decide) (PC_22 hL).1) ?_
    refine ai (r_iconst (pc := 11) (by decide +kernel : decode k_P_Parser_isMisplaced.2.1 11 = .ok (.iconst 3, 1)) ic_3) ?_
    rcases ite_some h with ⟨c2, h⟩ | ⟨c2, h⟩
    · refine ai (r_icmp_ne_f (pc := 12) 19 (by decide +kernel : decode k_P_Parser_isMisplaced.2.1 12 = .ok (.if_icmp .ne (7), 3)) (by decide) c2) ?_
      exact (ai (r_sub [1] rfl) (P_Parser_isMisplaced_15_run hL h))
    · refine ai (r_icmp_ne_t (pc := 12) (tgt := 19) (by decide +kernel : decode k_P_Parser_isMisplaced.2.1 12 = .ok (.if_icmp .ne (7), 3)) (by decide) c2) ?_
      refine ai (r_iconst (pc := 19) (by decide +kernel : decode k_P_Parser_isMisplaced.2.1 19 = .ok (.iconst 0, 1)) ic_0) ?_
      exact (ai (r_sub [1] rfl) (P_Parser_isMisplaced_20_run hL h))
set_option maxRecDepth 100000 in
set_option maxHeartbeats 4000000 in
theorem P_Formula_begin_15_run {s0 : Int32} {m m' : Mem} {r : Unit} (hL : PL m) (h : P_Formula_begin_15 s0 m = some (r, m')) : Run k_P_Formula_begin 15 [(0, .ref 1)] [.int s0, .ref 1] m none m' ∧ PL m' := by
  unfold P_Formula_begin_15 at h
  have c1 := (PC_1 hL).1
  obtain ⟨m2, hm2, h⟩ := vb_some h
  have hL : PL m2 := by rw [hm2]; exact hL
  refine ai (p_putI (pc := 15) hm2 (by decide +kernel : decode k_P_Formula_begin.2.1 15 = .ok (.putfield 25, 3)) lp_1_25 c1) ?_
  refine ai (p_aload_n (pc := 18) (k := 0) (by decide +kernel : decode k_P_Formula_begin.2.1 18 = .ok (.aload_n 0, 1)) rfl rfl) ?_
  refine ai (r_iconst (pc := 19) (by decide +kernel : decode k_P_Formula_begin.2.1 19 = .ok (.iconst 0, 1)) ic_0) ?_
  have c3 := (PC_1 hL).1
  obtain ⟨m4, hm4, h⟩ := vb_some h
  have hL : PL m4 := by rw [hm4]; exact hL
  refine ai (p_putI (pc := 20) hm4 (by decide +kernel : decode k_P_Formula_begin.2.1 20 = .ok (.putfield 29, 3)) lp_1_29 c3) ?_
  refine ai (p_aload_n (pc := 23) (k := 0) (by decide +kernel : decode k_P_Formula_begin.2.1 23 = .ok (.aload_n 0, 1)) rfl rfl) ?_
  refine ai (r_iconst (pc := 24) (by decide +kernel : decode k_P_Formula_begin.2.1 24 = .ok (.iconst 0, 1)) ic_0) ?_
  have c5 := (PC_1 hL).1
  obtain ⟨m6, hm6, h⟩ := vb_some h
  have hL : PL m6 := by rw [hm6]; exact hL
  refine ai (p_putZ (pc := 25) hm6 (by decide) (by decide +kernel : decode k_P_Formula_begin.2.1 25 = .ok (.putfield 32, 3)) lp_1_32 c5) ?_
  refine ai (p_aload_n (pc := 28) (k := 0) (by decide +kernel : decode k_P_Formula_begin.2.1 28 = .ok (.aload_n 0, 1)) rfl rfl) ?_
  refine ai (r_iconst (pc := 29) (by decide +kernel : decode k_P_Formula_begin.2.1 29 = .ok (.iconst 0, 1)) ic_0) ?_
  have c7 := (PC_1 hL).1
  obtain ⟨m8, hm8, h⟩ := vb_some h
  have hL : PL m8 := by rw [hm8]; exact hL
  refine ai (p_putZ (pc := 30) hm8 (by decide) (by decide +kernel : decode k_P_Formula_begin.2.1 30 = .ok (.putfield 35, 3)) lp_1_35 c7) ?_
  refine ai (p_aload_n (pc := 33) (k := 0) (by decide +kernel : decode k_P_Formula_begin.2.1 33 = .ok (.aload_n 0, 1)) rfl rfl) ?_
  refine ai (r_iconst (pc := 34) (by decide +kernel : decode k_P_Formula_begin.2.1 34 = .ok (.iconst 0, 1)) ic_0) ?_
  have c9 := (PC_1 hL).1
  obtain ⟨m10, hm10, h⟩ := vb_some h
  have hL : PL m10 := by rw [hm10]; exact hL
  refine ai (p_putI (pc := 35) hm10 (by decide +kernel : decode k_P_Formula_begin.2.1 35 = .ok (.putfield 38, 3)) lp_1_38 c9) ?_
  refine ai (p_aload_n (pc := 38) (k := 0) (by decide +kernel : decode k_P_Formula_begin.2.1 38 = .ok (.aload_n 0, 1)) rfl rfl) ?_
  refine ai (r_iconst (pc := 39) (by decide +kernel : decode k_P_Formula_begin.2.1 39 = .ok (.iconst 0, 1)) ic_0) ?_
  have c11 := (PC_1 hL).1
  obtain ⟨m12, hm12, h⟩ := vb_some h
  have hL : PL m12 := by rw [hm12]; exact hL
  refine ai (p_putI (pc := 40) hm12 (by decide +kernel : decode k_P_Formula_begin.2.1 40 = .ok (.putfield 41, 3)) lp_1_41 c11) ?_
  cases h
  exact ⟨r_vret rfl (by decide +kernel : decode k_P_Formula_begin.2.1 43 = .ok (.return_, 1)), hL⟩
set_option maxRecDepth 100000 in
set_option maxHeartbeats 4000000 in
theorem P_Formula_begin_run {x1 : Int32} {m m' : Mem} {r : Unit} (hL : PL m) (h : P_Formula_begin x1 m = some (r, m')) : Run k_P_Formula_begin 0 [(0, .ref 1), (1, .int x1)] [] m none m' ∧ PL m' := by
  unfold P_Formula_begin at h
  refine ai (p_aload_n (pc := 0) (k := 0) (by decide +kernel : decode k_P_Formula_begin.2.1 0 = .ok (.aload_n 0, 1)) rfl rfl) ?_
  refine ai (r_iload_n (pc := 1) (k := 1) (by decide +kernel : decode k_P_Formula_begin.2.1 1 = .ok (.iload_n 1, 1)) rfl rfl) ?_
  obtain ⟨z1, h⟩ := gz_some h
  have c2 := (PC_1 hL).1
  obtain ⟨m3, hm3, h⟩ := vb_some h
  have hL : PL m3 := by rw [hm3]; exact hL
  refine ai (p_putZ (pc := 2) hm3 z1 (by decide +kernel : decode k_P_Formula_begin.2.1 2 = .ok (.putfield 21, 3)) lp_1_21 c2) ?_
  refine ai (p_aload_n (pc := 5) (k := 0) (by decide +kernel : decode k_P_Formula_begin.2.1 5 = .ok (.aload_n 0, 1)) rfl rfl) ?_
  refine ai (r_iload_n (pc := 6) (k := 1) (by decide +kernel : decode k_P_Formula_begin.2.1 6 = .ok (.iload_n 1, 1)) rfl rfl) ?_
  rcases ite_some h with ⟨c4, h⟩ | ⟨c4, h⟩
  · refine ai (r_if_eq_t (pc := 7) (tgt := 14) (by decide +kernel : decode k_P_Formula_begin.2.1 7 = .ok (.ifCond .eq (7), 3)) (by decide) c4) ?_
    refine ai (r_iconst (pc := 14) (by decide +kernel : decode k_P_Formula_begin.2.1 14 = .ok (.iconst 1, 1)) ic_1) ?_
    exact (ai (r_sub [0] rfl) (P_Formula_begin_15_run hL h))
  · refine ai (r_if_eq_f (pc := 7) 14 (by decide +kernel : decode k_P_Formula_begin.2.1 7 = .ok (.ifCond .eq (7), 3)) (by decide) c4) ?_
    refine ai (r_iconst (pc := 10) (by decide +kernel : decode k_P_Formula_begin.2.1 10 = .ok (.iconst 0, 1)) ic_0) ?_
    refine ai (r_goto (pc := 11) (tgt := 15) (by decide +kernel : decode k_P_Formula_begin.2.1 11 = .ok (.goto (4), 3)) (by decide)) ?_
    exact (ai (r_sub [0] rfl) (P_Formula_begin_15_run hL h))
set_option maxRecDepth 100000 in
set_option maxHeartbeats 4000000 in
theorem P_Formula_wantsTicket_run {m m' : Mem} {r : Int32} (hL : PL m) (h : P_Formula_wantsTicket m = some (r, m')) : Run k_P_Formula_wantsTicket 0 [(0, .ref 1)] [] m (some (.int r)) m' ∧ PL m' := by
  unfold P_Formula_wantsTicket at h
  refine ai (p_aload_n (pc := 0) (k := 0) (by decide +kernel : decode k_P_Formula_wantsTicket.2.1 0 = .ok (.aload_n 0, 1)) rfl rfl) ?_
  refine ai (r_getI (pc := 1) (by decide +kernel : decode k_P_Formula_wantsTicket.2.1 1 = .ok (.getfield 25, 3)) lg_1_25 (by decide) (PC_1 hL).1) ?_
  refine ai (r_iconst (pc := 4) (by decide +kernel : decode k_P_Formula_wantsTicket.2.1 4 = .ok (.iconst 2, 1)) ic_2) ?_
  rcases ite_some h with ⟨c1, h⟩ | ⟨c1, h⟩
  · refine ai (r_icmp_ne_f (pc := 5) 12 (by decide +kernel : decode k_P_Formula_wantsTicket.2.1 5 = .ok (.if_icmp .ne (7), 3)) (by decide) c1) ?_
    refine ai (r_iconst (pc := 8) (by decide +kernel : decode k_P_Formula_wantsTicket.2.1 8 = .ok (.iconst 1, 1)) ic_1) ?_
    refine ai (r_goto (pc := 9) (tgt := 13) (by decide +kernel : decode k_P_Formula_wantsTicket.2.1 9 = .ok (.goto (4), 3)) (by decide)) ?_
    cases h
    exact ⟨r_zret (by decide) rfl (by decide +kernel : decode k_P_Formula_wantsTicket.2.1 13 = .ok (.ireturn, 1)), hL⟩
  · refine ai (r_icmp_ne_t (pc := 5) (tgt := 12) (by decide +kernel : decode k_P_Formula_wantsTicket.2.1 5 = .ok (.if_icmp .ne (7), 3)) (by decide) c1) ?_
    refine ai (r_iconst (pc := 12) (by decide +kernel : decode k_P_Formula_wantsTicket.2.1 12 = .ok (.iconst 0, 1)) ic_0) ?_
    cases h
    exact ⟨r_zret (by decide) rfl (by decide +kernel : decode k_P_Formula_wantsTicket.2.1 13 = .ok (.ireturn, 1)), hL⟩
set_option maxRecDepth 100000 in
set_option maxHeartbeats 4000000 in
theorem P_Formula_wantsSign_run {m m' : Mem} {r : Int32} (hL : PL m) (h : P_Formula_wantsSign m = some (r, m')) : Run k_P_Formula_wantsSign 0 [(0, .ref 1)] [] m (some (.int r)) m' ∧ PL m' := by
  unfold P_Formula_wantsSign at h
  refine ai (p_aload_n (pc := 0) (k := 0) (by decide +kernel : decode k_P_Formula_wantsSign.2.1 0 = .ok (.aload_n 0, 1)) rfl rfl) ?_
  refine ai (r_getI (pc := 1) (by decide +kernel : decode k_P_Formula_wantsSign.2.1 1 = .ok (.getfield 25, 3)) lg_1_25 (by decide) (PC_1 hL).1) ?_
  refine ai (r_iconst (pc := 4) (by decide +kernel : decode k_P_Formula_wantsSign.2.1 4 = .ok (.iconst 3, 1)) ic_3) ?_
  rcases ite_some h with ⟨c1, h⟩ | ⟨c1, h⟩
  · refine ai (r_icmp_eq_t (pc := 5) (tgt := 16) (by decide +kernel : decode k_P_Formula_wantsSign.2.1 5 = .ok (.if_icmp .eq (11), 3)) (by decide) c1) ?_
    refine ai (r_iconst (pc := 16) (by decide +kernel : decode k_P_Formula_wantsSign.2.1 16 = .ok (.iconst 1, 1)) ic_1) ?_
    refine ai (r_goto (pc := 17) (tgt := 21) (by decide +kernel : decode k_P_Formula_wantsSign.2.1 17 = .ok (.goto (4), 3)) (by decide)) ?_
    cases h
    exact ⟨r_zret (by decide) rfl (by decide +kernel : decode k_P_Formula_wantsSign.2.1 21 = .ok (.ireturn, 1)), hL⟩
  · refine ai (r_icmp_eq_f (pc := 5) 16 (by decide +kernel : decode k_P_Formula_wantsSign.2.1 5 = .ok (.if_icmp .eq (11), 3)) (by decide) c1) ?_
    refine ai (p_aload_n (pc := 8) (k := 0) (by decide +kernel : decode k_P_Formula_wantsSign.2.1 8 = .ok (.aload_n 0, 1)) rfl rfl) ?_
    refine ai (r_getI (pc := 9) (by decide +kernel : decode k_P_Formula_wantsSign.2.1 9 = .ok (.getfield 25, 3)) lg_1_25 (by decide) (PC_1 hL).1) ?_
    refine ai (r_iconst (pc := 12) (by decide +kernel : decode k_P_Formula_wantsSign.2.1 12 = .ok (.iconst 4, 1)) ic_4) ?_
    rcases ite_some h with ⟨c2, h⟩ | ⟨c2, h⟩
    · refine ai (r_icmp_ne_f (pc := 13) 20 (by decide +kernel : decode k_P_Formula_wantsSign.2.1 13 = .ok (.if_icmp .ne (7), 3)) (by decide) c2) ?_
      refine ai (r_iconst (pc := 16) (by decide +kernel : decode k_P_Formula_wantsSign.2.1 16 = .ok (.iconst 1, 1)) ic_1) ?_
      refine ai (r_goto (pc := 17) (tgt := 21) (by decide +kernel : decode k_P_Formula_wantsSign.2.1 17 = .ok (.goto (4), 3)) (by decide)) ?_
      cases h
      exact ⟨r_zret (by decide) rfl (by decide +kernel : decode k_P_Formula_wantsSign.2.1 21 = .ok (.ireturn, 1)), hL⟩
    · refine ai (r_icmp_ne_t (pc := 13) (tgt := 20) (by decide +kernel : decode k_P_Formula_wantsSign.2.1 13 = .ok (.if_icmp .ne (7), 3)) (by decide) c2) ?_
      refine ai (r_iconst (pc := 20) (by decide +kernel : decode k_P_Formula_wantsSign.2.1 20 = .ok (.iconst 0, 1)) ic_0) ?_
      cases h
      exact ⟨r_zret (by decide) rfl (by decide +kernel : decode k_P_Formula_wantsSign.2.1 21 = .ok (.ireturn, 1)), hL⟩
set_option maxRecDepth 100000 in
set_option maxHeartbeats 4000000 in
theorem P_Formula_addStep_run {x1 : Int32} {x2 : Int32} {m m' : Mem} {r : Unit} (hL : PL m) (h : P_Formula_addStep x1 x2 m = some (r, m')) : Run k_P_Formula_addStep 0 [(0, .ref 1), (1, .int x1), (2, .int x2)] [] m none m' ∧ PL m' := by
  unfold P_Formula_addStep at h
  refine ai (p_aload_n (pc := 0) (k := 0) (by decide +kernel : decode k_P_Formula_addStep.2.1 0 = .ok (.aload_n 0, 1)) rfl rfl) ?_
  refine ai (r_getI (pc := 1) (by decide +kernel : decode k_P_Formula_addStep.2.1 1 = .ok (.getfield 38, 3)) lg_1_38 (by decide) (PC_1 hL).1) ?_
  refine ai (p_aload_n (pc := 4) (k := 0) (by decide +kernel : decode k_P_Formula_addStep.2.1 4 = .ok (.aload_n 0, 1)) rfl rfl) ?_
  refine ai (p_getr (pc := 5) (PR_133_1 hL) (by decide +kernel : decode k_P_Formula_addStep.2.1 5 = .ok (.getfield 9, 3)) lg_1_9 (PC_1 hL).1) ?_
  refine ai (p_alen (pc := 8) (x := 500) (by decide +kernel : decode k_P_Formula_addStep.2.1 8 = .ok (.arraylength, 1)) (by rw [(PC_2 hL).1]; decide) (PC_2 hL).2 (by decide)) ?_
  rcases ite_some h with ⟨c1, h⟩ | ⟨c1, h⟩
  · refine ai (r_icmp_ge_t (pc := 9) (tgt := 38) (by decide +kernel : decode k_P_Formula_addStep.2.1 9 = .ok (.if_icmp .ge (29), 3)) (by decide) c1) ?_
    cases h
    exact ⟨r_vret rfl (by decide +kernel : decode k_P_Formula_addStep.2.1 38 = .ok (.return_, 1)), hL⟩
  · refine ai (r_icmp_ge_f (pc := 9) 38 (by decide +kernel : decode k_P_Formula_addStep.2.1 9 = .ok (.if_icmp .ge (29), 3)) (by decide) c1) ?_
    refine ai (p_aload_n (pc := 12) (k := 0) (by decide +kernel : decode k_P_Formula_addStep.2.1 12 = .ok (.aload_n 0, 1)) rfl rfl) ?_
    refine ai (p_getr (pc := 13) (PR_133_1 hL) (by decide +kernel : decode k_P_Formula_addStep.2.1 13 = .ok (.getfield 9, 3)) lg_1_9 (PC_1 hL).1) ?_
    refine ai (p_aload_n (pc := 16) (k := 0) (by decide +kernel : decode k_P_Formula_addStep.2.1 16 = .ok (.aload_n 0, 1)) rfl rfl) ?_
    refine ai (r_getI (pc := 17) (by decide +kernel : decode k_P_Formula_addStep.2.1 17 = .ok (.getfield 38, 3)) lg_1_38 (by decide) (PC_1 hL).1) ?_
    refine ai (r_iload_n (pc := 20) (k := 1) (by decide +kernel : decode k_P_Formula_addStep.2.1 20 = .ok (.iload_n 1, 1)) rfl rfl) ?_
    refine ai (r_sipush (pc := 21) (by decide +kernel : decode k_P_Formula_addStep.2.1 21 = .ok (.sipush (10000), 3)) (by decide : _ = (10000 : Int32))) ?_
    refine ai (r_imul (pc := 24) (by decide +kernel : decode k_P_Formula_addStep.2.1 24 = .ok (.imul, 1))) ?_
    refine ai (r_iload_n (pc := 25) (k := 2) (by decide +kernel : decode k_P_Formula_addStep.2.1 25 = .ok (.iload_n 2, 1)) rfl rfl) ?_
    refine ai (r_iadd (pc := 26) (by decide +kernel : decode k_P_Formula_addStep.2.1 26 = .ok (.iadd, 1))) ?_
    obtain ⟨g2, h⟩ := gd_some h
    have c3 := (PC_2 hL).1
    have c4 := (PC_2 hL).2
    obtain ⟨m5, hm5, h⟩ := vb_some h
    have hL : PL m5 := by rw [hm5]; exact hL
    refine ai (p_iast (pc := 27) hm5 (by decide +kernel : decode k_P_Formula_addStep.2.1 27 = .ok (.iastore, 1)) c3 c4 g2) ?_
    refine ai (p_aload_n (pc := 28) (k := 0) (by decide +kernel : decode k_P_Formula_addStep.2.1 28 = .ok (.aload_n 0, 1)) rfl rfl) ?_
    refine ai (r_dup (pc := 29) (by decide +kernel : decode k_P_Formula_addStep.2.1 29 = .ok (.dup, 1)) (rfl)) ?_
    refine ai (r_getI (pc := 30) (by decide +kernel : decode k_P_Formula_addStep.2.1 30 = .ok (.getfield 38, 3)) lg_1_38 (by decide) (PC_1 hL).1) ?_
    refine ai (r_iconst (pc := 33) (by decide +kernel : decode k_P_Formula_addStep.2.1 33 = .ok (.iconst 1, 1)) ic_1) ?_
    refine ai (r_iadd (pc := 34) (by decide +kernel : decode k_P_Formula_addStep.2.1 34 = .ok (.iadd, 1))) ?_
    have c6 := (PC_1 hL).1
    obtain ⟨m7, hm7, h⟩ := vb_some h
    have hL : PL m7 := by rw [hm7]; exact hL
    refine ai (p_putI (pc := 35) hm7 (by decide +kernel : decode k_P_Formula_addStep.2.1 35 = .ok (.putfield 38, 3)) lp_1_38 c6) ?_
    cases h
    exact ⟨r_vret rfl (by decide +kernel : decode k_P_Formula_addStep.2.1 38 = .ok (.return_, 1)), hL⟩
set_option maxRecDepth 100000 in
set_option maxHeartbeats 4000000 in
theorem P_Formula_settle_0_run {n : Nat} {x1 : Int32} {m m' : Mem} {r : Unit} (hL : PL m) (h : P_Formula_settle_0 n x1 m = some (r, m')) : Run k_P_Formula_settle 0 [(0, .ref 1), (1, .int x1)] [] m none m' ∧ PL m' := by
  induction n generalizing x1 m r m' with
  | zero => exact absurd h (by simp [P_Formula_settle_0])
  | succ n ih =>
    rw [P_Formula_settle_0.eq_2] at h
    refine ai (p_aload_n (pc := 0) (k := 0) (by decide +kernel : decode k_P_Formula_settle.2.1 0 = .ok (.aload_n 0, 1)) rfl rfl) ?_
    refine ai (r_getI (pc := 1) (by decide +kernel : decode k_P_Formula_settle.2.1 1 = .ok (.getfield 41, 3)) lg_1_41 (by decide) (PC_1 hL).1) ?_
    rcases ite_some h with ⟨c1, h⟩ | ⟨c1, h⟩
    · refine ai (r_if_le_t (pc := 4) (tgt := 55) (by decide +kernel : decode k_P_Formula_settle.2.1 4 = .ok (.ifCond .le (51), 3)) (by decide) c1) ?_
      cases h
      exact ⟨r_vret rfl (by decide +kernel : decode k_P_Formula_settle.2.1 55 = .ok (.return_, 1)), hL⟩
    · refine ai (r_if_le_f (pc := 4) 55 (by decide +kernel : decode k_P_Formula_settle.2.1 4 = .ok (.ifCond .le (51), 3)) (by decide) c1) ?_
      refine ai (p_aload_n (pc := 7) (k := 0) (by decide +kernel : decode k_P_Formula_settle.2.1 7 = .ok (.aload_n 0, 1)) rfl rfl) ?_
      refine ai (p_getr (pc := 8) (PR_135_1 hL) (by decide +kernel : decode k_P_Formula_settle.2.1 8 = .ok (.getfield 15, 3)) lg_1_15 (PC_1 hL).1) ?_
      refine ai (p_aload_n (pc := 11) (k := 0) (by decide +kernel : decode k_P_Formula_settle.2.1 11 = .ok (.aload_n 0, 1)) rfl rfl) ?_
      refine ai (r_getI (pc := 12) (by decide +kernel : decode k_P_Formula_settle.2.1 12 = .ok (.getfield 41, 3)) lg_1_41 (by decide) (PC_1 hL).1) ?_
      refine ai (r_iconst (pc := 15) (by decide +kernel : decode k_P_Formula_settle.2.1 15 = .ok (.iconst 1, 1)) ic_1) ?_
      refine ai (r_isub (pc := 16) (by decide +kernel : decode k_P_Formula_settle.2.1 16 = .ok (.isub, 1))) ?_
      obtain ⟨g2, h⟩ := gd_some h
      refine ai (p_iald (pc := 17) (by decide +kernel : decode k_P_Formula_settle.2.1 17 = .ok (.iaload, 1)) (PC_3 hL).1 (PC_3 hL).2 g2) ?_
      refine ai (r_iload_n (pc := 18) (k := 1) (by decide +kernel : decode k_P_Formula_settle.2.1 18 = .ok (.iload_n 1, 1)) rfl rfl) ?_
      refine ai (r_bipush (pc := 19) (by decide +kernel : decode k_P_Formula_settle.2.1 19 = .ok (.bipush (100), 2)) (by decide : _ = (100 : Int32))) ?_
      refine ai (r_imul (pc := 21) (by decide +kernel : decode k_P_Formula_settle.2.1 21 = .ok (.imul, 1))) ?_
      rcases ite_some h with ⟨c3, h⟩ | ⟨c3, h⟩
      · refine ai (r_icmp_lt_t (pc := 22) (tgt := 55) (by decide +kernel : decode k_P_Formula_settle.2.1 22 = .ok (.if_icmp .lt (33), 3)) (by decide) c3) ?_
        cases h
        exact ⟨r_vret rfl (by decide +kernel : decode k_P_Formula_settle.2.1 55 = .ok (.return_, 1)), hL⟩
      · refine ai (r_icmp_lt_f (pc := 22) 55 (by decide +kernel : decode k_P_Formula_settle.2.1 22 = .ok (.if_icmp .lt (33), 3)) (by decide) c3) ?_
        refine ai (p_aload_n (pc := 25) (k := 0) (by decide +kernel : decode k_P_Formula_settle.2.1 25 = .ok (.aload_n 0, 1)) rfl rfl) ?_
        refine ai (r_dup (pc := 26) (by decide +kernel : decode k_P_Formula_settle.2.1 26 = .ok (.dup, 1)) (rfl)) ?_
        refine ai (r_getI (pc := 27) (by decide +kernel : decode k_P_Formula_settle.2.1 27 = .ok (.getfield 41, 3)) lg_1_41 (by decide) (PC_1 hL).1) ?_
        refine ai (r_iconst (pc := 30) (by decide +kernel : decode k_P_Formula_settle.2.1 30 = .ok (.iconst 1, 1)) ic_1) ?_
        refine ai (r_isub (pc := 31) (by decide +kernel : decode k_P_Formula_settle.2.1 31 = .ok (.isub, 1))) ?_
        have c4 := (PC_1 hL).1
        obtain ⟨m5, hm5, h⟩ := vb_some h
        have hL : PL m5 := by rw [hm5]; exact hL
        refine ai (p_putI (pc := 32) hm5 (by decide +kernel : decode k_P_Formula_settle.2.1 32 = .ok (.putfield 41, 3)) lp_1_41 c4) ?_
        refine ai (p_aload_n (pc := 35) (k := 0) (by decide +kernel : decode k_P_Formula_settle.2.1 35 = .ok (.aload_n 0, 1)) rfl rfl) ?_
        refine ai (p_aload_n (pc := 36) (k := 0) (by decide +kernel : decode k_P_Formula_settle.2.1 36 = .ok (.aload_n 0, 1)) rfl rfl) ?_
        refine ai (p_getr (pc := 37) (PR_135_1 hL) (by decide +kernel : decode k_P_Formula_settle.2.1 37 = .ok (.getfield 15, 3)) lg_1_15 (PC_1 hL).1) ?_
        refine ai (p_aload_n (pc := 40) (k := 0) (by decide +kernel : decode k_P_Formula_settle.2.1 40 = .ok (.aload_n 0, 1)) rfl rfl) ?_
        refine ai (r_getI (pc := 41) (by decide +kernel : decode k_P_Formula_settle.2.1 41 = .ok (.getfield 41, 3)) lg_1_41 (by decide) (PC_1 hL).1) ?_
        obtain ⟨g6, h⟩ := gd_some h
        refine ai (p_iald (pc := 44) (by decide +kernel : decode k_P_Formula_settle.2.1 44 = .ok (.iaload, 1)) (PC_3 hL).1 (PC_3 hL).2 g6) ?_
        refine ai (r_bipush (pc := 45) (by decide +kernel : decode k_P_Formula_settle.2.1 45 = .ok (.bipush (100), 2)) (by decide : _ = (100 : Int32))) ?_
        refine ai (r_irem (pc := 47) (by decide +kernel : decode k_P_Formula_settle.2.1 47 = .ok (.irem, 1)) (by decide)) ?_
        refine ai (r_iconst (pc := 48) (by decide +kernel : decode k_P_Formula_settle.2.1 48 = .ok (.iconst 0, 1)) ic_0) ?_
        obtain ⟨r7, m8, hr7, h⟩ := bn_some h
        have q9 := P_Formula_addStep_run hL hr7
        have c10 := (PC_1 hL).1
        have hL := q9.2
        refine ai (q_callV (pc := 49) (As := [.int ((aI m5 3 (ix (mI m5 136 1))) - (aI m5 3 (ix (mI m5 136 1))) / 100 * 100), .int 0]) (st := []) (st2 := []) (b := 1) rfl rfl (by decide +kernel : decode k_P_Formula_settle.2.1 49 = .ok (.invokevirtual 62, 3)) lc_1_62 mo_P_Formula_addStep ⟨Nat.le_of_ble_eq_true rfl, Nat.le_of_ble_eq_true rfl⟩ (Nat.le_of_ble_eq_true rfl) (Nat.le_of_ble_eq_true rfl) c10 q9.1) ?_
        refine ai (r_goto (pc := 52) (tgt := 0) (by decide +kernel : decode k_P_Formula_settle.2.1 52 = .ok (.goto (-52), 3)) (by decide)) ?_
        exact (ih hL h)
theorem P_Formula_settle_run {x1 : Int32} {m m' : Mem} {r : Unit} (hL : PL m) (h : P_Formula_settle x1 m = some (r, m')) : Run k_P_Formula_settle 0 [(0, .ref 1), (1, .int x1)] [] m none m' ∧ PL m' := (P_Formula_settle_0_run hL h)
set_option maxRecDepth 100000 in
set_option maxHeartbeats 4000000 in
theorem P_Formula_putOff_run {x1 : Int32} {x2 : Int32} {m m' : Mem} {r : Unit} (hL : PL m) (h : P_Formula_putOff x1 x2 m = some (r, m')) : Run k_P_Formula_putOff 0 [(0, .ref 1), (1, .int x1), (2, .int x2)] [] m none m' ∧ PL m' := by
  unfold P_Formula_putOff at h
  refine ai (p_aload_n (pc := 0) (k := 0) (by decide +kernel : decode k_P_Formula_putOff.2.1 0 = .ok (.aload_n 0, 1)) rfl rfl) ?_
  refine ai (r_getI (pc := 1) (by decide +kernel : decode k_P_Formula_putOff.2.1 1 = .ok (.getfield 41, 3)) lg_1_41 (by decide) (PC_1 hL).1) ?_
  refine ai (p_aload_n (pc := 4) (k := 0) (by decide +kernel : decode k_P_Formula_putOff.2.1 4 = .ok (.aload_n 0, 1)) rfl rfl) ?_
  refine ai (p_getr (pc := 5) (PR_135_1 hL) (by decide +kernel : decode k_P_Formula_putOff.2.1 5 = .ok (.getfield 15, 3)) lg_1_15 (PC_1 hL).1) ?_
  refine ai (p_alen (pc := 8) (x := 500) (by decide +kernel : decode k_P_Formula_putOff.2.1 8 = .ok (.arraylength, 1)) (by rw [(PC_3 hL).1]; decide) (PC_3 hL).2 (by decide)) ?_
  rcases ite_some h with ⟨c1, h⟩ | ⟨c1, h⟩
  · refine ai (r_icmp_ge_t (pc := 9) (tgt := 37) (by decide +kernel : decode k_P_Formula_putOff.2.1 9 = .ok (.if_icmp .ge (28), 3)) (by decide) c1) ?_
    cases h
    exact ⟨r_vret rfl (by decide +kernel : decode k_P_Formula_putOff.2.1 37 = .ok (.return_, 1)), hL⟩
  · refine ai (r_icmp_ge_f (pc := 9) 37 (by decide +kernel : decode k_P_Formula_putOff.2.1 9 = .ok (.if_icmp .ge (28), 3)) (by decide) c1) ?_
    refine ai (p_aload_n (pc := 12) (k := 0) (by decide +kernel : decode k_P_Formula_putOff.2.1 12 = .ok (.aload_n 0, 1)) rfl rfl) ?_
    refine ai (p_getr (pc := 13) (PR_135_1 hL) (by decide +kernel : decode k_P_Formula_putOff.2.1 13 = .ok (.getfield 15, 3)) lg_1_15 (PC_1 hL).1) ?_
    refine ai (p_aload_n (pc := 16) (k := 0) (by decide +kernel : decode k_P_Formula_putOff.2.1 16 = .ok (.aload_n 0, 1)) rfl rfl) ?_
    refine ai (r_getI (pc := 17) (by decide +kernel : decode k_P_Formula_putOff.2.1 17 = .ok (.getfield 41, 3)) lg_1_41 (by decide) (PC_1 hL).1) ?_
    refine ai (r_iload_n (pc := 20) (k := 2) (by decide +kernel : decode k_P_Formula_putOff.2.1 20 = .ok (.iload_n 2, 1)) rfl rfl) ?_
    refine ai (r_bipush (pc := 21) (by decide +kernel : decode k_P_Formula_putOff.2.1 21 = .ok (.bipush (100), 2)) (by decide : _ = (100 : Int32))) ?_
    refine ai (r_imul (pc := 23) (by decide +kernel : decode k_P_Formula_putOff.2.1 23 = .ok (.imul, 1))) ?_
    refine ai (r_iload_n (pc := 24) (k := 1) (by decide +kernel : decode k_P_Formula_putOff.2.1 24 = .ok (.iload_n 1, 1)) rfl rfl) ?_
    refine ai (r_iadd (pc := 25) (by decide +kernel : decode k_P_Formula_putOff.2.1 25 = .ok (.iadd, 1))) ?_
    obtain ⟨g2, h⟩ := gd_some h
    have c3 := (PC_3 hL).1
    have c4 := (PC_3 hL).2
    obtain ⟨m5, hm5, h⟩ := vb_some h
    have hL : PL m5 := by rw [hm5]; exact hL
    refine ai (p_iast (pc := 26) hm5 (by decide +kernel : decode k_P_Formula_putOff.2.1 26 = .ok (.iastore, 1)) c3 c4 g2) ?_
    refine ai (p_aload_n (pc := 27) (k := 0) (by decide +kernel : decode k_P_Formula_putOff.2.1 27 = .ok (.aload_n 0, 1)) rfl rfl) ?_
    refine ai (r_dup (pc := 28) (by decide +kernel : decode k_P_Formula_putOff.2.1 28 = .ok (.dup, 1)) (rfl)) ?_
    refine ai (r_getI (pc := 29) (by decide +kernel : decode k_P_Formula_putOff.2.1 29 = .ok (.getfield 41, 3)) lg_1_41 (by decide) (PC_1 hL).1) ?_
    refine ai (r_iconst (pc := 32) (by decide +kernel : decode k_P_Formula_putOff.2.1 32 = .ok (.iconst 1, 1)) ic_1) ?_
    refine ai (r_iadd (pc := 33) (by decide +kernel : decode k_P_Formula_putOff.2.1 33 = .ok (.iadd, 1))) ?_
    have c6 := (PC_1 hL).1
    obtain ⟨m7, hm7, h⟩ := vb_some h
    have hL : PL m7 := by rw [hm7]; exact hL
    refine ai (p_putI (pc := 34) hm7 (by decide +kernel : decode k_P_Formula_putOff.2.1 34 = .ok (.putfield 41, 3)) lp_1_41 c6) ?_
    cases h
    exact ⟨r_vret rfl (by decide +kernel : decode k_P_Formula_putOff.2.1 37 = .ok (.return_, 1)), hL⟩
