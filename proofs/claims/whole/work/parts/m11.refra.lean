/-! written by gen/emit.py -/
set_option maxRecDepth 100000 in
set_option maxHeartbeats 4000000 in
theorem R_more_run {x0 : Int64} {x2 : Int32} {m : Mem} {r : Int64} (h : R_more x0 x2 = some r) : Run k_R_more 0 [(0, .long x0), (2, .int x2)] [] m (some (.long r)) m := by
  unfold R_more at h
  refine (r_iload_n (pc := 0) (k := 1) (by decide +kernel : decode k_R_more.2.1 0 = .ok (.iload_n 2, 1)) rfl rfl) ?_
  rcases ite_some h with ⟨c1, h⟩ | ⟨c1, h⟩
  · refine (r_if_ne_f (pc := 1) 8 (by decide +kernel : decode k_R_more.2.1 1 = .ok (.ifCond .ne (7), 3)) (by decide) c1) ?_
    refine (r_lload_n (pc := 4) (k := 0) (by decide +kernel : decode k_R_more.2.1 4 = .ok (.lload_n 0, 1)) rfl rfl) ?_
    refine (r_goto (pc := 5) (tgt := 21) (by decide +kernel : decode k_R_more.2.1 5 = .ok (.goto (16), 3)) (by decide)) ?_
    cases h
    exact r_lret rfl (by decide +kernel : decode k_R_more.2.1 21 = .ok (.lreturn, 1))
  · refine (r_if_ne_t (pc := 1) (tgt := 8) (by decide +kernel : decode k_R_more.2.1 1 = .ok (.ifCond .ne (7), 3)) (by decide) c1) ?_
    refine (r_ldc2_w (pc := 8) (by decide +kernel : decode k_R_more.2.1 8 = .ok (.ldc2_w 286, 3)) lk_12_286) ?_
    refine (r_lload_n (pc := 11) (k := 0) (by decide +kernel : decode k_R_more.2.1 11 = .ok (.lload_n 0, 1)) rfl rfl) ?_
    refine (r_lmul (pc := 12) (by decide +kernel : decode k_R_more.2.1 12 = .ok (.lmul, 1))) ?_
    refine (r_iload_n (pc := 13) (k := 1) (by decide +kernel : decode k_R_more.2.1 13 = .ok (.iload_n 2, 1)) rfl rfl) ?_
    refine (r_bipush (pc := 14) (by decide +kernel : decode k_R_more.2.1 14 = .ok (.bipush (97), 2)) (by decide : _ = (97 : Int32))) ?_
    refine (r_isub (pc := 16) (by decide +kernel : decode k_R_more.2.1 16 = .ok (.isub, 1))) ?_
    refine (r_iconst (pc := 17) (by decide +kernel : decode k_R_more.2.1 17 = .ok (.iconst 1, 1)) ic_1) ?_
    refine (r_iadd (pc := 18) (by decide +kernel : decode k_R_more.2.1 18 = .ok (.iadd, 1))) ?_
    refine (r_i2l (pc := 19) (by decide +kernel : decode k_R_more.2.1 19 = .ok (.i2l, 1))) ?_
    refine (r_ladd (pc := 20) (by decide +kernel : decode k_R_more.2.1 20 = .ok (.ladd, 1))) ?_
    cases h
    exact r_lret rfl (by decide +kernel : decode k_R_more.2.1 21 = .ok (.lreturn, 1))
set_option maxRecDepth 100000 in
set_option maxHeartbeats 4000000 in
theorem R_word_run {x0 : Int32} {x1 : Int32} {x2 : Int32} {x3 : Int32} {x4 : Int32} {x5 : Int32} {x6 : Int32} {m : Mem} {r : Int64} (h : R_word x0 x1 x2 x3 x4 x5 x6 = some r) : Run k_R_word 0 [(0, .int x0), (1, .int x1), (2, .int x2), (3, .int x3), (4, .int x4), (5, .int x5), (6, .int x6)] [] m (some (.long r)) m := by
  unfold R_word at h
  refine (r_lconst (pc := 0) (x := 0) (by decide +kernel : decode k_R_word.2.1 0 = .ok (.lconst 0, 1)) (by decide)) ?_
  refine (r_iload_n (pc := 1) (k := 0) (by decide +kernel : decode k_R_word.2.1 1 = .ok (.iload_n 0, 1)) rfl rfl) ?_
  obtain ⟨r1, hr1, h⟩ := bp_some h
  refine (q_callS (pc := 2) (As := [.long 0, .int x0]) (st := []) (st2 := [.long r1]) rfl rfl (by decide +kernel : decode k_R_word.2.1 2 = .ok (.invokestatic 288, 3)) lc_12_288 mo_R_more ⟨Nat.le_of_ble_eq_true rfl, Nat.le_of_ble_eq_true rfl⟩ (Nat.le_of_ble_eq_true rfl) (Nat.le_of_ble_eq_true rfl) (R_more_run hr1)) ?_
  refine (r_iload_n (pc := 5) (k := 1) (by decide +kernel : decode k_R_word.2.1 5 = .ok (.iload_n 1, 1)) rfl rfl) ?_
  obtain ⟨r2, hr2, h⟩ := bp_some h
  refine (q_callS (pc := 6) (As := [.long r1, .int x1]) (st := []) (st2 := [.long r2]) rfl rfl (by decide +kernel : decode k_R_word.2.1 6 = .ok (.invokestatic 288, 3)) lc_12_288 mo_R_more ⟨Nat.le_of_ble_eq_true rfl, Nat.le_of_ble_eq_true rfl⟩ (Nat.le_of_ble_eq_true rfl) (Nat.le_of_ble_eq_true rfl) (R_more_run hr2)) ?_
  refine (r_iload_n (pc := 9) (k := 2) (by decide +kernel : decode k_R_word.2.1 9 = .ok (.iload_n 2, 1)) rfl rfl) ?_
  obtain ⟨r3, hr3, h⟩ := bp_some h
  refine (q_callS (pc := 10) (As := [.long r2, .int x2]) (st := []) (st2 := [.long r3]) rfl rfl (by decide +kernel : decode k_R_word.2.1 10 = .ok (.invokestatic 288, 3)) lc_12_288 mo_R_more ⟨Nat.le_of_ble_eq_true rfl, Nat.le_of_ble_eq_true rfl⟩ (Nat.le_of_ble_eq_true rfl) (Nat.le_of_ble_eq_true rfl) (R_more_run hr3)) ?_
  refine (r_iload_n (pc := 13) (k := 3) (by decide +kernel : decode k_R_word.2.1 13 = .ok (.iload_n 3, 1)) rfl rfl) ?_
  obtain ⟨r4, hr4, h⟩ := bp_some h
  refine (q_callS (pc := 14) (As := [.long r3, .int x3]) (st := []) (st2 := [.long r4]) rfl rfl (by decide +kernel : decode k_R_word.2.1 14 = .ok (.invokestatic 288, 3)) lc_12_288 mo_R_more ⟨Nat.le_of_ble_eq_true rfl, Nat.le_of_ble_eq_true rfl⟩ (Nat.le_of_ble_eq_true rfl) (Nat.le_of_ble_eq_true rfl) (R_more_run hr4)) ?_
  refine (r_iload (pc := 17) (k := 4) (by decide +kernel : decode k_R_word.2.1 17 = .ok (.iload 4, 2)) rfl) ?_
  obtain ⟨r5, hr5, h⟩ := bp_some h
  refine (q_callS (pc := 19) (As := [.long r4, .int x4]) (st := []) (st2 := [.long r5]) rfl rfl (by decide +kernel : decode k_R_word.2.1 19 = .ok (.invokestatic 288, 3)) lc_12_288 mo_R_more ⟨Nat.le_of_ble_eq_true rfl, Nat.le_of_ble_eq_true rfl⟩ (Nat.le_of_ble_eq_true rfl) (Nat.le_of_ble_eq_true rfl) (R_more_run hr5)) ?_
  refine (r_iload (pc := 22) (k := 5) (by decide +kernel : decode k_R_word.2.1 22 = .ok (.iload 5, 2)) rfl) ?_
  obtain ⟨r6, hr6, h⟩ := bp_some h
  refine (q_callS (pc := 24) (As := [.long r5, .int x5]) (st := []) (st2 := [.long r6]) rfl rfl (by decide +kernel : decode k_R_word.2.1 24 = .ok (.invokestatic 288, 3)) lc_12_288 mo_R_more ⟨Nat.le_of_ble_eq_true rfl, Nat.le_of_ble_eq_true rfl⟩ (Nat.le_of_ble_eq_true rfl) (Nat.le_of_ble_eq_true rfl) (R_more_run hr6)) ?_
  refine (r_iload (pc := 27) (k := 6) (by decide +kernel : decode k_R_word.2.1 27 = .ok (.iload 6, 2)) rfl) ?_
  obtain ⟨r7, hr7, h⟩ := bp_some h
  refine (q_callS (pc := 29) (As := [.long r6, .int x6]) (st := []) (st2 := [.long r7]) rfl rfl (by decide +kernel : decode k_R_word.2.1 29 = .ok (.invokestatic 288, 3)) lc_12_288 mo_R_more ⟨Nat.le_of_ble_eq_true rfl, Nat.le_of_ble_eq_true rfl⟩ (Nat.le_of_ble_eq_true rfl) (Nat.le_of_ble_eq_true rfl) (R_more_run hr7)) ?_
  cases h
  exact r_lret rfl (by decide +kernel : decode k_R_word.2.1 32 = .ok (.lreturn, 1))
set_option maxRecDepth 100000 in
set_option maxHeartbeats 4000000 in
theorem R_put_3_run {n : Nat} {x1 : Int32} {x2 : Int32} {m m' : Mem} {r : Unit} (hL : RL m) (h : R_put_3 n x1 x2 m = some (r, m')) : Run k_R_put 3 [(0, .ref 0), (1, .int x1), (2, .int x2)] [] m none m' ∧ RL m' := by
  induction n generalizing x1 x2 m r m' with
  | zero => exact absurd h (by simp [R_put_3])
  | succ n ih =>
    rw [R_put_3.eq_2] at h
    refine ai (r_iload_n (pc := 3) (k := 2) (by decide +kernel : decode k_R_put.2.1 3 = .ok (.iload_n 2, 1)) rfl rfl) ?_
    rcases ite_some h with ⟨c1, h⟩ | ⟨c1, h⟩
    · refine ai (r_if_lt_t (pc := 4) (tgt := 36) (by decide +kernel : decode k_R_put.2.1 4 = .ok (.ifCond .lt (32), 3)) (by decide) c1) ?_
      cases h
      exact ⟨r_vret rfl (by decide +kernel : decode k_R_put.2.1 36 = .ok (.return_, 1)), hL⟩
    · refine ai (r_if_lt_f (pc := 4) 36 (by decide +kernel : decode k_R_put.2.1 4 = .ok (.ifCond .lt (32), 3)) (by decide) c1) ?_
      refine ai (p_aload_n (pc := 7) (k := 0) (by decide +kernel : decode k_R_put.2.1 7 = .ok (.aload_n 0, 1)) rfl rfl) ?_
      refine ai (p_getr (pc := 8) (RR_1537_0 hL) (by decide +kernel : decode k_R_put.2.1 8 = .ok (.getfield 13, 3)) lg_12_13 (RC_0 hL).1) ?_
      refine ai (p_aload_n (pc := 11) (k := 0) (by decide +kernel : decode k_R_put.2.1 11 = .ok (.aload_n 0, 1)) rfl rfl) ?_
      refine ai (r_getI (pc := 12) (by decide +kernel : decode k_R_put.2.1 12 = .ok (.getfield 276, 3)) lg_12_276 (by decide) (RC_0 hL).1) ?_
      refine ai (r_iload_n (pc := 15) (k := 1) (by decide +kernel : decode k_R_put.2.1 15 = .ok (.iload_n 1, 1)) rfl rfl) ?_
      refine ai (r_iload_n (pc := 16) (k := 2) (by decide +kernel : decode k_R_put.2.1 16 = .ok (.iload_n 2, 1)) rfl rfl) ?_
      refine ai (r_ishr (pc := 17) (by decide +kernel : decode k_R_put.2.1 17 = .ok (.ishr, 1))) ?_
      refine ai (r_i2b (pc := 18) (by decide +kernel : decode k_R_put.2.1 18 = .ok (.i2b, 1))) ?_
      obtain ⟨g2, h⟩ := gd_some h
      have c3 := (RC_1 hL).1
      have c4 := (RC_1 hL).2
      obtain ⟨m5, hm5, h⟩ := vb_some h
      have hL : RL m5 := by rw [hm5]; exact hL
      refine ai (p_bast (pc := 19) hm5 (by decide +kernel : decode k_R_put.2.1 19 = .ok (.bastore, 1)) c3 c4 g2) ?_
      refine ai (p_aload_n (pc := 20) (k := 0) (by decide +kernel : decode k_R_put.2.1 20 = .ok (.aload_n 0, 1)) rfl rfl) ?_
      refine ai (r_dup (pc := 21) (by decide +kernel : decode k_R_put.2.1 21 = .ok (.dup, 1)) (rfl)) ?_
      refine ai (r_getI (pc := 22) (by decide +kernel : decode k_R_put.2.1 22 = .ok (.getfield 276, 3)) lg_12_276 (by decide) (RC_0 hL).1) ?_
      refine ai (r_iconst (pc := 25) (by decide +kernel : decode k_R_put.2.1 25 = .ok (.iconst 1, 1)) ic_1) ?_
      refine ai (r_iadd (pc := 26) (by decide +kernel : decode k_R_put.2.1 26 = .ok (.iadd, 1))) ?_
      have c6 := (RC_0 hL).1
      obtain ⟨m7, hm7, h⟩ := vb_some h
      have hL : RL m7 := by rw [hm7]; exact hL
      refine ai (p_putI (pc := 27) hm7 (by decide +kernel : decode k_R_put.2.1 27 = .ok (.putfield 276, 3)) lp_12_276 c6) ?_
      obtain ⟨v8, hv8, h⟩ := vb_some h
      refine ai (e_iinc (pc := 30) (k := 2) hv8 ic_m8 (by decide +kernel : decode k_R_put.2.1 30 = .ok (.iinc 2 (-8), 3)) rfl (by decide) rfl) ?_
      refine ai (r_goto (pc := 33) (tgt := 3) (by decide +kernel : decode k_R_put.2.1 33 = .ok (.goto (-30), 3)) (by decide)) ?_
      exact (ai (r_sub [1, 2, 0] rfl) (ih hL h))
set_option maxRecDepth 100000 in
set_option maxHeartbeats 4000000 in
theorem R_put_run {x1 : Int32} {m m' : Mem} {r : Unit} (hL : RL m) (h : R_put x1 m = some (r, m')) : Run k_R_put 0 [(0, .ref 0), (1, .int x1)] [] m none m' ∧ RL m' := by
  unfold R_put at h
  refine ai (r_bipush (pc := 0) (by decide +kernel : decode k_R_put.2.1 0 = .ok (.bipush (24), 2)) (by decide : _ = (24 : Int32))) ?_
  refine ai (e_istore_n (pc := 2) rfl (by decide +kernel : decode k_R_put.2.1 2 = .ok (.istore_n 2, 1)) rfl (by decide) rfl) ?_
  exact (ai (r_sub [1, 2, 0] rfl) (R_put_3_run hL h))
set_option maxRecDepth 100000 in
set_option maxHeartbeats 4000000 in
theorem R_feed_run {x1 : Int32} {x2 : Int32} {x3 : Int32} {x4 : Int32} {x5 : Int32} {m m' : Mem} {r : Int32} (hL : RL m) (h : R_feed x1 x2 x3 x4 x5 m = some (r, m')) : Run k_R_feed 0 [(0, .ref 0), (1, .int x1), (2, .int x2), (3, .int x3), (4, .int x4), (5, .int x5)] [] m (some (.int r)) m' ∧ RL m' := by
  unfold R_feed at h
  refine ai (p_aload_n (pc := 0) (k := 0) (by decide +kernel : decode k_R_feed.2.1 0 = .ok (.aload_n 0, 1)) rfl rfl) ?_
  refine ai (r_getI (pc := 1) (by decide +kernel : decode k_R_feed.2.1 1 = .ok (.getfield 276, 3)) lg_12_276 (by decide) (RC_0 hL).1) ?_
  refine ai (r_bipush (pc := 4) (by decide +kernel : decode k_R_feed.2.1 4 = .ok (.bipush (20), 2)) (by decide : _ = (20 : Int32))) ?_
  refine ai (r_iadd (pc := 6) (by decide +kernel : decode k_R_feed.2.1 6 = .ok (.iadd, 1))) ?_
  refine ai (r_sipush (pc := 7) (by decide +kernel : decode k_R_feed.2.1 7 = .ok (.sipush (2000), 3)) (by decide : _ = (2000 : Int32))) ?_
  rcases ite_some h with ⟨c1, h⟩ | ⟨c1, h⟩
  · refine ai (r_icmp_le_t (pc := 10) (tgt := 15) (by decide +kernel : decode k_R_feed.2.1 10 = .ok (.if_icmp .le (5), 3)) (by decide) c1) ?_
    refine ai (p_aload_n (pc := 15) (k := 0) (by decide +kernel : decode k_R_feed.2.1 15 = .ok (.aload_n 0, 1)) rfl rfl) ?_
    refine ai (r_iload_n (pc := 16) (k := 1) (by decide +kernel : decode k_R_feed.2.1 16 = .ok (.iload_n 1, 1)) rfl rfl) ?_
    obtain ⟨r2, m3, hr2, h⟩ := bn_some h
    have q4 := R_put_run hL hr2
    have c5 := (RC_0 hL).1
    have hL := q4.2
    refine ai (q_callV (pc := 17) (As := [.int x1]) (st := []) (st2 := []) (b := 0) rfl rfl (by decide +kernel : decode k_R_feed.2.1 17 = .ok (.invokevirtual 279, 3)) lc_12_279 mo_R_put ⟨Nat.le_of_ble_eq_true rfl, Nat.le_of_ble_eq_true rfl⟩ (Nat.le_of_ble_eq_true rfl) (Nat.le_of_ble_eq_true rfl) c5 q4.1) ?_
    refine ai (p_aload_n (pc := 20) (k := 0) (by decide +kernel : decode k_R_feed.2.1 20 = .ok (.aload_n 0, 1)) rfl rfl) ?_
    refine ai (r_iload_n (pc := 21) (k := 2) (by decide +kernel : decode k_R_feed.2.1 21 = .ok (.iload_n 2, 1)) rfl rfl) ?_
    obtain ⟨r6, m7, hr6, h⟩ := bn_some h
    have q8 := R_put_run hL hr6
    have c9 := (RC_0 hL).1
    have hL := q8.2
    refine ai (q_callV (pc := 22) (As := [.int x2]) (st := []) (st2 := []) (b := 0) rfl rfl (by decide +kernel : decode k_R_feed.2.1 22 = .ok (.invokevirtual 279, 3)) lc_12_279 mo_R_put ⟨Nat.le_of_ble_eq_true rfl, Nat.le_of_ble_eq_true rfl⟩ (Nat.le_of_ble_eq_true rfl) (Nat.le_of_ble_eq_true rfl) c9 q8.1) ?_
    refine ai (p_aload_n (pc := 25) (k := 0) (by decide +kernel : decode k_R_feed.2.1 25 = .ok (.aload_n 0, 1)) rfl rfl) ?_
    refine ai (r_iload_n (pc := 26) (k := 3) (by decide +kernel : decode k_R_feed.2.1 26 = .ok (.iload_n 3, 1)) rfl rfl) ?_
    obtain ⟨r10, m11, hr10, h⟩ := bn_some h
    have q12 := R_put_run hL hr10
    have c13 := (RC_0 hL).1
    have hL := q12.2
    refine ai (q_callV (pc := 27) (As := [.int x3]) (st := []) (st2 := []) (b := 0) rfl rfl (by decide +kernel : decode k_R_feed.2.1 27 = .ok (.invokevirtual 279, 3)) lc_12_279 mo_R_put ⟨Nat.le_of_ble_eq_true rfl, Nat.le_of_ble_eq_true rfl⟩ (Nat.le_of_ble_eq_true rfl) (Nat.le_of_ble_eq_true rfl) c13 q12.1) ?_
    refine ai (p_aload_n (pc := 30) (k := 0) (by decide +kernel : decode k_R_feed.2.1 30 = .ok (.aload_n 0, 1)) rfl rfl) ?_
    refine ai (r_iload (pc := 31) (k := 4) (by decide +kernel : decode k_R_feed.2.1 31 = .ok (.iload 4, 2)) rfl) ?_
    obtain ⟨r14, m15, hr14, h⟩ := bn_some h
    have q16 := R_put_run hL hr14
    have c17 := (RC_0 hL).1
    have hL := q16.2
    refine ai (q_callV (pc := 33) (As := [.int x4]) (st := []) (st2 := []) (b := 0) rfl rfl (by decide +kernel : decode k_R_feed.2.1 33 = .ok (.invokevirtual 279, 3)) lc_12_279 mo_R_put ⟨Nat.le_of_ble_eq_true rfl, Nat.le_of_ble_eq_true rfl⟩ (Nat.le_of_ble_eq_true rfl) (Nat.le_of_ble_eq_true rfl) c17 q16.1) ?_
    refine ai (p_aload_n (pc := 36) (k := 0) (by decide +kernel : decode k_R_feed.2.1 36 = .ok (.aload_n 0, 1)) rfl rfl) ?_
    refine ai (r_iload (pc := 37) (k := 5) (by decide +kernel : decode k_R_feed.2.1 37 = .ok (.iload 5, 2)) rfl) ?_
    obtain ⟨r18, m19, hr18, h⟩ := bn_some h
    have q20 := R_put_run hL hr18
    have c21 := (RC_0 hL).1
    have hL := q20.2
    refine ai (q_callV (pc := 39) (As := [.int x5]) (st := []) (st2 := []) (b := 0) rfl rfl (by decide +kernel : decode k_R_feed.2.1 39 = .ok (.invokevirtual 279, 3)) lc_12_279 mo_R_put ⟨Nat.le_of_ble_eq_true rfl, Nat.le_of_ble_eq_true rfl⟩ (Nat.le_of_ble_eq_true rfl) (Nat.le_of_ble_eq_true rfl) c21 q20.1) ?_
    refine ai (p_aload_n (pc := 42) (k := 0) (by decide +kernel : decode k_R_feed.2.1 42 = .ok (.aload_n 0, 1)) rfl rfl) ?_
    refine ai (r_getI (pc := 43) (by decide +kernel : decode k_R_feed.2.1 43 = .ok (.getfield 276, 3)) lg_12_276 (by decide) (RC_0 hL).1) ?_
    cases h
    exact ⟨r_iret rfl (by decide +kernel : decode k_R_feed.2.1 46 = .ok (.ireturn, 1)), hL⟩
  · refine ai (r_icmp_le_f (pc := 10) 15 (by decide +kernel : decode k_R_feed.2.1 10 = .ok (.if_icmp .le (5), 3)) (by decide) c1) ?_
    refine ai (r_iconst (pc := 13) (by decide +kernel : decode k_R_feed.2.1 13 = .ok (.iconst (-1), 1)) ic_m1) ?_
    cases h
    exact ⟨r_iret rfl (by decide +kernel : decode k_R_feed.2.1 14 = .ok (.ireturn, 1)), hL⟩
set_option maxRecDepth 100000 in
set_option maxHeartbeats 4000000 in
theorem R_back_run {x1 : Int32} {m m' : Mem} {r : Int32} (hL : RL m) (h : R_back x1 m = some (r, m')) : Run k_R_back 0 [(0, .ref 0), (1, .int x1)] [] m (some (.int r)) m' ∧ RL m' := by
  unfold R_back at h
  refine ai (r_iload_n (pc := 0) (k := 1) (by decide +kernel : decode k_R_back.2.1 0 = .ok (.iload_n 1, 1)) rfl rfl) ?_
  rcases ite_some h with ⟨c1, h⟩ | ⟨c1, h⟩
  · refine ai (r_if_lt_t (pc := 1) (tgt := 12) (by decide +kernel : decode k_R_back.2.1 1 = .ok (.ifCond .lt (11), 3)) (by decide) c1) ?_
    refine ai (r_iconst (pc := 12) (by decide +kernel : decode k_R_back.2.1 12 = .ok (.iconst (-1), 1)) ic_m1) ?_
    cases h
    exact ⟨r_iret rfl (by decide +kernel : decode k_R_back.2.1 13 = .ok (.ireturn, 1)), hL⟩
  · refine ai (r_if_lt_f (pc := 1) 12 (by decide +kernel : decode k_R_back.2.1 1 = .ok (.ifCond .lt (11), 3)) (by decide) c1) ?_
    refine ai (r_iload_n (pc := 4) (k := 1) (by decide +kernel : decode k_R_back.2.1 4 = .ok (.iload_n 1, 1)) rfl rfl) ?_
    refine ai (p_aload_n (pc := 5) (k := 0) (by decide +kernel : decode k_R_back.2.1 5 = .ok (.aload_n 0, 1)) rfl rfl) ?_
    refine ai (r_getI (pc := 6) (by decide +kernel : decode k_R_back.2.1 6 = .ok (.getfield 276, 3)) lg_12_276 (by decide) (RC_0 hL).1) ?_
    rcases ite_some h with ⟨c2, h⟩ | ⟨c2, h⟩
    · refine ai (r_icmp_le_t (pc := 9) (tgt := 14) (by decide +kernel : decode k_R_back.2.1 9 = .ok (.if_icmp .le (5), 3)) (by decide) c2) ?_
      refine ai (p_aload_n (pc := 14) (k := 0) (by decide +kernel : decode k_R_back.2.1 14 = .ok (.aload_n 0, 1)) rfl rfl) ?_
      refine ai (r_dup (pc := 15) (by decide +kernel : decode k_R_back.2.1 15 = .ok (.dup, 1)) (rfl)) ?_
      refine ai (r_getI (pc := 16) (by decide +kernel : decode k_R_back.2.1 16 = .ok (.getfield 276, 3)) lg_12_276 (by decide) (RC_0 hL).1) ?_
      refine ai (r_iload_n (pc := 19) (k := 1) (by decide +kernel : decode k_R_back.2.1 19 = .ok (.iload_n 1, 1)) rfl rfl) ?_
      refine ai (r_isub (pc := 20) (by decide +kernel : decode k_R_back.2.1 20 = .ok (.isub, 1))) ?_
      have c3 := (RC_0 hL).1
      obtain ⟨m4, hm4, h⟩ := vb_some h
      have hL : RL m4 := by rw [hm4]; exact hL
      refine ai (p_putI (pc := 21) hm4 (by decide +kernel : decode k_R_back.2.1 21 = .ok (.putfield 276, 3)) lp_12_276 c3) ?_
      refine ai (p_aload_n (pc := 24) (k := 0) (by decide +kernel : decode k_R_back.2.1 24 = .ok (.aload_n 0, 1)) rfl rfl) ?_
      refine ai (r_getI (pc := 25) (by decide +kernel : decode k_R_back.2.1 25 = .ok (.getfield 276, 3)) lg_12_276 (by decide) (RC_0 hL).1) ?_
      cases h
      exact ⟨r_iret rfl (by decide +kernel : decode k_R_back.2.1 28 = .ok (.ireturn, 1)), hL⟩
    · refine ai (r_icmp_le_f (pc := 9) 14 (by decide +kernel : decode k_R_back.2.1 9 = .ok (.if_icmp .le (5), 3)) (by decide) c2) ?_
      refine ai (r_iconst (pc := 12) (by decide +kernel : decode k_R_back.2.1 12 = .ok (.iconst (-1), 1)) ic_m1) ?_
      cases h
      exact ⟨r_iret rfl (by decide +kernel : decode k_R_back.2.1 13 = .ok (.ireturn, 1)), hL⟩
set_option maxRecDepth 100000 in
set_option maxHeartbeats 4000000 in
theorem R_at_run {x1 : Int32} {m m' : Mem} {r : Int32} (hL : RL m) (h : R_at x1 m = some (r, m')) : Run k_R_at 0 [(0, .ref 0), (1, .int x1)] [] m (some (.int r)) m' ∧ RL m' := by
  unfold R_at at h
  refine ai (r_iload_n (pc := 0) (k := 1) (by decide +kernel : decode k_R_at.2.1 0 = .ok (.iload_n 1, 1)) rfl rfl) ?_
  refine ai (p_aload_n (pc := 1) (k := 0) (by decide +kernel : decode k_R_at.2.1 1 = .ok (.aload_n 0, 1)) rfl rfl) ?_
  refine ai (r_getI (pc := 2) (by decide +kernel : decode k_R_at.2.1 2 = .ok (.getfield 283, 3)) lg_12_283 (by decide) (RC_0 hL).1) ?_
  rcases ite_some h with ⟨c1, h⟩ | ⟨c1, h⟩
  · refine ai (r_icmp_ge_t (pc := 5) (tgt := 21) (by decide +kernel : decode k_R_at.2.1 5 = .ok (.if_icmp .ge (16), 3)) (by decide) c1) ?_
    refine ai (r_iconst (pc := 21) (by decide +kernel : decode k_R_at.2.1 21 = .ok (.iconst 0, 1)) ic_0) ?_
    cases h
    exact ⟨r_iret rfl (by decide +kernel : decode k_R_at.2.1 22 = .ok (.ireturn, 1)), hL⟩
  · refine ai (r_icmp_ge_f (pc := 5) 21 (by decide +kernel : decode k_R_at.2.1 5 = .ok (.if_icmp .ge (16), 3)) (by decide) c1) ?_
    refine ai (p_aload_n (pc := 8) (k := 0) (by decide +kernel : decode k_R_at.2.1 8 = .ok (.aload_n 0, 1)) rfl rfl) ?_
    refine ai (p_getr (pc := 9) (RR_1539_0 hL) (by decide +kernel : decode k_R_at.2.1 9 = .ok (.getfield 17, 3)) lg_12_17 (RC_0 hL).1) ?_
    refine ai (r_iload_n (pc := 12) (k := 1) (by decide +kernel : decode k_R_at.2.1 12 = .ok (.iload_n 1, 1)) rfl rfl) ?_
    obtain ⟨g2, h⟩ := gd_some h
    refine ai (p_bald (pc := 13) (by decide +kernel : decode k_R_at.2.1 13 = .ok (.baload, 1)) (RC_2 hL).1 (RC_2 hL).2 g2) ?_
    refine ai (r_sipush (pc := 14) (by decide +kernel : decode k_R_at.2.1 14 = .ok (.sipush (255), 3)) (by decide : _ = (255 : Int32))) ?_
    refine ai (r_iand (pc := 17) (by decide +kernel : decode k_R_at.2.1 17 = .ok (.iand, 1))) ?_
    refine ai (r_goto (pc := 18) (tgt := 22) (by decide +kernel : decode k_R_at.2.1 18 = .ok (.goto (4), 3)) (by decide)) ?_
    cases h
    exact ⟨r_iret rfl (by decide +kernel : decode k_R_at.2.1 22 = .ok (.ireturn, 1)), hL⟩
set_option maxRecDepth 100000 in
set_option maxHeartbeats 4000000 in
theorem R_token_run {x1 : Int32} {x2 : Int32} {x3 : Int32} {x4 : Int64} {m m' : Mem} {r : Unit} (hL : RL m) (h : R_token x1 x2 x3 x4 m = some (r, m')) : Run k_R_token 0 [(0, .ref 0), (1, .int x1), (2, .int x2), (3, .int x3), (4, .long x4)] [] m none m' ∧ RL m' := by
  unfold R_token at h
  refine ai (p_aload_n (pc := 0) (k := 0) (by decide +kernel : decode k_R_token.2.1 0 = .ok (.aload_n 0, 1)) rfl rfl) ?_
  refine ai (p_getr (pc := 1) (RR_1541_0 hL) (by decide +kernel : decode k_R_token.2.1 1 = .ok (.getfield 20, 3)) lg_12_20 (RC_0 hL).1) ?_
  refine ai (p_aload_n (pc := 4) (k := 0) (by decide +kernel : decode k_R_token.2.1 4 = .ok (.aload_n 0, 1)) rfl rfl) ?_
  refine ai (r_getI (pc := 5) (by decide +kernel : decode k_R_token.2.1 5 = .ok (.getfield 292, 3)) lg_12_292 (by decide) (RC_0 hL).1) ?_
  refine ai (r_iload_n (pc := 8) (k := 1) (by decide +kernel : decode k_R_token.2.1 8 = .ok (.iload_n 1, 1)) rfl rfl) ?_
  obtain ⟨g1, h⟩ := gd_some h
  have c2 := (RC_3 hL).1
  have c3 := (RC_3 hL).2
  obtain ⟨m4, hm4, h⟩ := vb_some h
  have hL : RL m4 := by rw [hm4]; exact hL
  refine ai (p_iast (pc := 9) hm4 (by decide +kernel : decode k_R_token.2.1 9 = .ok (.iastore, 1)) c2 c3 g1) ?_
  refine ai (p_aload_n (pc := 10) (k := 0) (by decide +kernel : decode k_R_token.2.1 10 = .ok (.aload_n 0, 1)) rfl rfl) ?_
  refine ai (p_getr (pc := 11) (RR_1542_0 hL) (by decide +kernel : decode k_R_token.2.1 11 = .ok (.getfield 24, 3)) lg_12_24 (RC_0 hL).1) ?_
  refine ai (p_aload_n (pc := 14) (k := 0) (by decide +kernel : decode k_R_token.2.1 14 = .ok (.aload_n 0, 1)) rfl rfl) ?_
  refine ai (r_getI (pc := 15) (by decide +kernel : decode k_R_token.2.1 15 = .ok (.getfield 292, 3)) lg_12_292 (by decide) (RC_0 hL).1) ?_
  refine ai (r_iload_n (pc := 18) (k := 2) (by decide +kernel : decode k_R_token.2.1 18 = .ok (.iload_n 2, 1)) rfl rfl) ?_
  obtain ⟨g5, h⟩ := gd_some h
  have c6 := (RC_4 hL).1
  have c7 := (RC_4 hL).2
  obtain ⟨m8, hm8, h⟩ := vb_some h
  have hL : RL m8 := by rw [hm8]; exact hL
  refine ai (p_iast (pc := 19) hm8 (by decide +kernel : decode k_R_token.2.1 19 = .ok (.iastore, 1)) c6 c7 g5) ?_
  refine ai (p_aload_n (pc := 20) (k := 0) (by decide +kernel : decode k_R_token.2.1 20 = .ok (.aload_n 0, 1)) rfl rfl) ?_
  refine ai (p_getr (pc := 21) (RR_1543_0 hL) (by decide +kernel : decode k_R_token.2.1 21 = .ok (.getfield 27, 3)) lg_12_27 (RC_0 hL).1) ?_
  refine ai (p_aload_n (pc := 24) (k := 0) (by decide +kernel : decode k_R_token.2.1 24 = .ok (.aload_n 0, 1)) rfl rfl) ?_
  refine ai (r_getI (pc := 25) (by decide +kernel : decode k_R_token.2.1 25 = .ok (.getfield 292, 3)) lg_12_292 (by decide) (RC_0 hL).1) ?_
  refine ai (r_iload_n (pc := 28) (k := 3) (by decide +kernel : decode k_R_token.2.1 28 = .ok (.iload_n 3, 1)) rfl rfl) ?_
  obtain ⟨g9, h⟩ := gd_some h
  have c10 := (RC_5 hL).1
  have c11 := (RC_5 hL).2
  obtain ⟨m12, hm12, h⟩ := vb_some h
  have hL : RL m12 := by rw [hm12]; exact hL
  refine ai (p_iast (pc := 29) hm12 (by decide +kernel : decode k_R_token.2.1 29 = .ok (.iastore, 1)) c10 c11 g9) ?_
  refine ai (p_aload_n (pc := 30) (k := 0) (by decide +kernel : decode k_R_token.2.1 30 = .ok (.aload_n 0, 1)) rfl rfl) ?_
  refine ai (p_getr (pc := 31) (RR_1544_0 hL) (by decide +kernel : decode k_R_token.2.1 31 = .ok (.getfield 30, 3)) lg_12_30 (RC_0 hL).1) ?_
  refine ai (p_aload_n (pc := 34) (k := 0) (by decide +kernel : decode k_R_token.2.1 34 = .ok (.aload_n 0, 1)) rfl rfl) ?_
  refine ai (r_getI (pc := 35) (by decide +kernel : decode k_R_token.2.1 35 = .ok (.getfield 292, 3)) lg_12_292 (by decide) (RC_0 hL).1) ?_
  refine ai (r_lload (pc := 38) (k := 4) (by decide +kernel : decode k_R_token.2.1 38 = .ok (.lload 4, 2)) rfl) ?_
  obtain ⟨g13, h⟩ := gd_some h
  have c14 := (RC_6 hL).1
  have c15 := (RC_6 hL).2
  obtain ⟨m16, hm16, h⟩ := vb_some h
  have hL : RL m16 := by rw [hm16]; exact hL
  refine ai (p_last (pc := 40) hm16 (by decide +kernel : decode k_R_token.2.1 40 = .ok (.lastore, 1)) c14 c15 g13) ?_
  refine ai (p_aload_n (pc := 41) (k := 0) (by decide +kernel : decode k_R_token.2.1 41 = .ok (.aload_n 0, 1)) rfl rfl) ?_
  refine ai (r_dup (pc := 42) (by decide +kernel : decode k_R_token.2.1 42 = .ok (.dup, 1)) (rfl)) ?_
  refine ai (r_getI (pc := 43) (by decide +kernel : decode k_R_token.2.1 43 = .ok (.getfield 292, 3)) lg_12_292 (by decide) (RC_0 hL).1) ?_
  refine ai (r_iconst (pc := 46) (by decide +kernel : decode k_R_token.2.1 46 = .ok (.iconst 1, 1)) ic_1) ?_
  refine ai (r_iadd (pc := 47) (by decide +kernel : decode k_R_token.2.1 47 = .ok (.iadd, 1))) ?_
  have c17 := (RC_0 hL).1
  obtain ⟨m18, hm18, h⟩ := vb_some h
  have hL : RL m18 := by rw [hm18]; exact hL
  refine ai (p_putI (pc := 48) hm18 (by decide +kernel : decode k_R_token.2.1 48 = .ok (.putfield 292, 3)) lp_12_292 c17) ?_
  cases h
  exact ⟨r_vret rfl (by decide +kernel : decode k_R_token.2.1 51 = .ok (.return_, 1)), hL⟩
set_option maxRecDepth 100000 in
set_option maxHeartbeats 4000000 in
theorem R_isLetter_run {x0 : Int32} {m : Mem} {r : Int32} (h : R_isLetter x0 = some r) : Run k_R_isLetter 0 [(0, .int x0)] [] m (some (.int r)) m := by
  unfold R_isLetter at h
  refine (r_iload_n (pc := 0) (k := 0) (by decide +kernel : decode k_R_isLetter.2.1 0 = .ok (.iload_n 0, 1)) rfl rfl) ?_
  refine (r_bipush (pc := 1) (by decide +kernel : decode k_R_isLetter.2.1 1 = .ok (.bipush (97), 2)) (by decide : _ = (97 : Int32))) ?_
  rcases ite_some h with ⟨c1, h⟩ | ⟨c1, h⟩
  · refine (r_icmp_lt_t (pc := 3) (tgt := 16) (by decide +kernel : decode k_R_isLetter.2.1 3 = .ok (.if_icmp .lt (13), 3)) (by decide) c1) ?_
    refine (r_iconst (pc := 16) (by decide +kernel : decode k_R_isLetter.2.1 16 = .ok (.iconst 0, 1)) ic_0) ?_
    cases h
    exact r_zret (by decide) rfl (by decide +kernel : decode k_R_isLetter.2.1 17 = .ok (.ireturn, 1))
  · refine (r_icmp_lt_f (pc := 3) 16 (by decide +kernel : decode k_R_isLetter.2.1 3 = .ok (.if_icmp .lt (13), 3)) (by decide) c1) ?_
    refine (r_iload_n (pc := 6) (k := 0) (by decide +kernel : decode k_R_isLetter.2.1 6 = .ok (.iload_n 0, 1)) rfl rfl) ?_
    refine (r_bipush (pc := 7) (by decide +kernel : decode k_R_isLetter.2.1 7 = .ok (.bipush (122), 2)) (by decide : _ = (122 : Int32))) ?_
    rcases ite_some h with ⟨c2, h⟩ | ⟨c2, h⟩
    · refine (r_icmp_gt_t (pc := 9) (tgt := 16) (by decide +kernel : decode k_R_isLetter.2.1 9 = .ok (.if_icmp .gt (7), 3)) (by decide) c2) ?_
      refine (r_iconst (pc := 16) (by decide +kernel : decode k_R_isLetter.2.1 16 = .ok (.iconst 0, 1)) ic_0) ?_
      cases h
      exact r_zret (by decide) rfl (by decide +kernel : decode k_R_isLetter.2.1 17 = .ok (.ireturn, 1))
    · refine (r_icmp_gt_f (pc := 9) 16 (by decide +kernel : decode k_R_isLetter.2.1 9 = .ok (.if_icmp .gt (7), 3)) (by decide) c2) ?_
      refine (r_iconst (pc := 12) (by decide +kernel : decode k_R_isLetter.2.1 12 = .ok (.iconst 1, 1)) ic_1) ?_
      refine (r_goto (pc := 13) (tgt := 17) (by decide +kernel : decode k_R_isLetter.2.1 13 = .ok (.goto (4), 3)) (by decide)) ?_
      cases h
      exact r_zret (by decide) rfl (by decide +kernel : decode k_R_isLetter.2.1 17 = .ok (.ireturn, 1))
set_option maxRecDepth 100000 in
set_option maxHeartbeats 4000000 in
theorem R_isDigit_run {x0 : Int32} {m : Mem} {r : Int32} (h : R_isDigit x0 = some r) : Run k_R_isDigit 0 [(0, .int x0)] [] m (some (.int r)) m := by
  unfold R_isDigit at h
  refine (r_iload_n (pc := 0) (k := 0) (by decide +kernel : decode k_R_isDigit.2.1 0 = .ok (.iload_n 0, 1)) rfl rfl) ?_
  refine (r_bipush (pc := 1) (by decide +kernel : decode k_R_isDigit.2.1 1 = .ok (.bipush (48), 2)) (by decide : _ = (48 : Int32))) ?_
  rcases ite_some h with ⟨c1, h⟩ | ⟨c1, h⟩
  · refine (r_icmp_lt_t (pc := 3) (tgt := 16) (by decide +kernel : decode k_R_isDigit.2.1 3 = .ok (.if_icmp .lt (13), 3)) (by decide) c1) ?_
    refine (r_iconst (pc := 16) (by decide +kernel : decode k_R_isDigit.2.1 16 = .ok (.iconst 0, 1)) ic_0) ?_
    cases h
    exact r_zret (by decide) rfl (by decide +kernel : decode k_R_isDigit.2.1 17 = .ok (.ireturn, 1))
  · refine (r_icmp_lt_f (pc := 3) 16 (by decide +kernel : decode k_R_isDigit.2.1 3 = .ok (.if_icmp .lt (13), 3)) (by decide) c1) ?_
    refine (r_iload_n (pc := 6) (k := 0) (by decide +kernel : decode k_R_isDigit.2.1 6 = .ok (.iload_n 0, 1)) rfl rfl) ?_
    refine (r_bipush (pc := 7) (by decide +kernel : decode k_R_isDigit.2.1 7 = .ok (.bipush (57), 2)) (by decide : _ = (57 : Int32))) ?_
    rcases ite_some h with ⟨c2, h⟩ | ⟨c2, h⟩
    · refine (r_icmp_gt_t (pc := 9) (tgt := 16) (by decide +kernel : decode k_R_isDigit.2.1 9 = .ok (.if_icmp .gt (7), 3)) (by decide) c2) ?_
      refine (r_iconst (pc := 16) (by decide +kernel : decode k_R_isDigit.2.1 16 = .ok (.iconst 0, 1)) ic_0) ?_
      cases h
      exact r_zret (by decide) rfl (by decide +kernel : decode k_R_isDigit.2.1 17 = .ok (.ireturn, 1))
    · refine (r_icmp_gt_f (pc := 9) 16 (by decide +kernel : decode k_R_isDigit.2.1 9 = .ok (.if_icmp .gt (7), 3)) (by decide) c2) ?_
      refine (r_iconst (pc := 12) (by decide +kernel : decode k_R_isDigit.2.1 12 = .ok (.iconst 1, 1)) ic_1) ?_
      refine (r_goto (pc := 13) (tgt := 17) (by decide +kernel : decode k_R_isDigit.2.1 13 = .ok (.goto (4), 3)) (by decide)) ?_
      cases h
      exact r_zret (by decide) rfl (by decide +kernel : decode k_R_isDigit.2.1 17 = .ok (.ireturn, 1))
set_option maxRecDepth 100000 in
set_option maxHeartbeats 4000000 in
theorem R_sign_173_run {x1 : Int32} {x4 : Int32} {x5 : Int32} {m m' : Mem} {r : Int32} (hL : RL m) (h : R_sign_173 x1 x4 x5 m = some (r, m')) : Run k_R_sign 173 [(0, .ref 0), (1, .int x1), (4, .int x4), (5, .int x5)] [] m (some (.int r)) m' ∧ RL m' := by
  unfold R_sign_173 at h
  refine ai (p_aload_n (pc := 173) (k := 0) (by decide +kernel : decode k_R_sign.2.1 173 = .ok (.aload_n 0, 1)) rfl rfl) ?_
  refine ai (r_iload (pc := 174) (k := 3) (by decide +kernel : decode k_R_sign.2.1 174 = .ok (.iload 5, 2)) rfl) ?_
  refine ai (r_iload_n (pc := 176) (k := 1) (by decide +kernel : decode k_R_sign.2.1 176 = .ok (.iload_n 1, 1)) rfl rfl) ?_
  refine ai (r_iconst (pc := 177) (by decide +kernel : decode k_R_sign.2.1 177 = .ok (.iconst 0, 1)) ic_0) ?_
  refine ai (r_lconst (pc := 178) (x := 0) (by decide +kernel : decode k_R_sign.2.1 178 = .ok (.lconst 0, 1)) (by decide)) ?_
  obtain ⟨r1, m2, hr1, h⟩ := bn_some h
  have q3 := R_token_run hL hr1
  have c4 := (RC_0 hL).1
  have hL := q3.2
  refine ai (q_callV (pc := 179) (As := [.int x5, .int x1, .int 0, .long 0]) (st := []) (st2 := []) (b := 0) rfl rfl (by decide +kernel : decode k_R_sign.2.1 179 = .ok (.invokevirtual 299, 3)) lc_12_299 mo_R_token ⟨Nat.le_of_ble_eq_true rfl, Nat.le_of_ble_eq_true rfl⟩ (Nat.le_of_ble_eq_true rfl) (Nat.le_of_ble_eq_true rfl) c4 q3.1) ?_
  refine ai (r_iload (pc := 182) (k := 2) (by decide +kernel : decode k_R_sign.2.1 182 = .ok (.iload 4, 2)) rfl) ?_
  rcases ite_some h with ⟨c5, h⟩ | ⟨c5, h⟩
  · refine ai (r_if_le_t (pc := 184) (tgt := 191) (by decide +kernel : decode k_R_sign.2.1 184 = .ok (.ifCond .le (7), 3)) (by decide) c5) ?_
    refine ai (r_iconst (pc := 191) (by decide +kernel : decode k_R_sign.2.1 191 = .ok (.iconst 1, 1)) ic_1) ?_
    cases h
    exact ⟨r_iret rfl (by decide +kernel : decode k_R_sign.2.1 192 = .ok (.ireturn, 1)), hL⟩
  · refine ai (r_if_le_f (pc := 184) 191 (by decide +kernel : decode k_R_sign.2.1 184 = .ok (.ifCond .le (7), 3)) (by decide) c5) ?_
    refine ai (r_iconst (pc := 187) (by decide +kernel : decode k_R_sign.2.1 187 = .ok (.iconst 2, 1)) ic_2) ?_
    refine ai (r_goto (pc := 188) (tgt := 192) (by decide +kernel : decode k_R_sign.2.1 188 = .ok (.goto (4), 3)) (by decide)) ?_
    cases h
    exact ⟨r_iret rfl (by decide +kernel : decode k_R_sign.2.1 192 = .ok (.ireturn, 1)), hL⟩
set_option maxRecDepth 100000 in
set_option maxHeartbeats 4000000 in
theorem R_sign_44_run {x1 : Int32} {x2 : Int32} {s0 : Int32} {m m' : Mem} {r : Int32} (hL : RL m) (h : R_sign_44 x1 x2 s0 m = some (r, m')) : Run k_R_sign 44 [(0, .ref 0), (1, .int x1), (2, .int x2)] [.int s0] m (some (.int r)) m' ∧ RL m' := by
  unfold R_sign_44 at h
  refine ai (e_istore (pc := 44) rfl (by decide +kernel : decode k_R_sign.2.1 44 = .ok (.istore 4, 2)) (by decide) rfl) ?_
  refine ai (r_iconst (pc := 46) (by decide +kernel : decode k_R_sign.2.1 46 = .ok (.iconst 3, 1)) ic_3) ?_
  refine ai (e_istore (pc := 47) rfl (by decide +kernel : decode k_R_sign.2.1 47 = .ok (.istore 5, 2)) (by decide) rfl) ?_
  refine ai (r_iload (pc := 49) (k := 1) (by decide +kernel : decode k_R_sign.2.1 49 = .ok (.iload 4, 2)) rfl) ?_
  rcases ite_some h with ⟨c1, h⟩ | ⟨c1, h⟩
  · refine ai (r_if_le_t (pc := 51) (tgt := 61) (by decide +kernel : decode k_R_sign.2.1 51 = .ok (.ifCond .le (10), 3)) (by decide) c1) ?_
    refine ai (r_iload_n (pc := 61) (k := 4) (by decide +kernel : decode k_R_sign.2.1 61 = .ok (.iload_n 2, 1)) rfl rfl) ?_
    refine ai (r_bipush (pc := 62) (by decide +kernel : decode k_R_sign.2.1 62 = .ok (.bipush (59), 2)) (by decide : _ = (59 : Int32))) ?_
    rcases ite_some h with ⟨c2, h⟩ | ⟨c2, h⟩
    · refine ai (r_icmp_ne_f (pc := 64) 73 (by decide +kernel : decode k_R_sign.2.1 64 = .ok (.if_icmp .ne (9), 3)) (by decide) c2) ?_
      refine ai (r_iconst (pc := 67) (by decide +kernel : decode k_R_sign.2.1 67 = .ok (.iconst 4, 1)) ic_4) ?_
      refine ai (e_istore (pc := 68) rfl (by decide +kernel : decode k_R_sign.2.1 68 = .ok (.istore 5, 2)) (by decide) rfl) ?_
      refine ai (r_goto (pc := 70) (tgt := 173) (by decide +kernel : decode k_R_sign.2.1 70 = .ok (.goto (103), 3)) (by decide)) ?_
      exact (ai (r_sub [2, 3, 1, 0] rfl) (R_sign_173_run hL h))
    · refine ai (r_icmp_ne_t (pc := 64) (tgt := 73) (by decide +kernel : decode k_R_sign.2.1 64 = .ok (.if_icmp .ne (9), 3)) (by decide) c2) ?_
      refine ai (r_iload_n (pc := 73) (k := 4) (by decide +kernel : decode k_R_sign.2.1 73 = .ok (.iload_n 2, 1)) rfl rfl) ?_
      refine ai (r_bipush (pc := 74) (by decide +kernel : decode k_R_sign.2.1 74 = .ok (.bipush (40), 2)) (by decide : _ = (40 : Int32))) ?_
      rcases ite_some h with ⟨c3, h⟩ | ⟨c3, h⟩
      · refine ai (r_icmp_ne_f (pc := 76) 86 (by decide +kernel : decode k_R_sign.2.1 76 = .ok (.if_icmp .ne (10), 3)) (by decide) c3) ?_
        refine ai (r_bipush (pc := 79) (by decide +kernel : decode k_R_sign.2.1 79 = .ok (.bipush (6), 2)) (by decide : _ = (6 : Int32))) ?_
        refine ai (e_istore (pc := 81) rfl (by decide +kernel : decode k_R_sign.2.1 81 = .ok (.istore 5, 2)) (by decide) rfl) ?_
        refine ai (r_goto (pc := 83) (tgt := 173) (by decide +kernel : decode k_R_sign.2.1 83 = .ok (.goto (90), 3)) (by decide)) ?_
        exact (ai (r_sub [2, 3, 1, 0] rfl) (R_sign_173_run hL h))
      · refine ai (r_icmp_ne_t (pc := 76) (tgt := 86) (by decide +kernel : decode k_R_sign.2.1 76 = .ok (.if_icmp .ne (10), 3)) (by decide) c3) ?_
        refine ai (r_iload_n (pc := 86) (k := 4) (by decide +kernel : decode k_R_sign.2.1 86 = .ok (.iload_n 2, 1)) rfl rfl) ?_
        refine ai (r_bipush (pc := 87) (by decide +kernel : decode k_R_sign.2.1 87 = .ok (.bipush (41), 2)) (by decide : _ = (41 : Int32))) ?_
        rcases ite_some h with ⟨c4, h⟩ | ⟨c4, h⟩
        · refine ai (r_icmp_ne_f (pc := 89) 99 (by decide +kernel : decode k_R_sign.2.1 89 = .ok (.if_icmp .ne (10), 3)) (by decide) c4) ?_
          refine ai (r_bipush (pc := 92) (by decide +kernel : decode k_R_sign.2.1 92 = .ok (.bipush (7), 2)) (by decide : _ = (7 : Int32))) ?_
          refine ai (e_istore (pc := 94) rfl (by decide +kernel : decode k_R_sign.2.1 94 = .ok (.istore 5, 2)) (by decide) rfl) ?_
          refine ai (r_goto (pc := 96) (tgt := 173) (by decide +kernel : decode k_R_sign.2.1 96 = .ok (.goto (77), 3)) (by decide)) ?_
          exact (ai (r_sub [2, 3, 1, 0] rfl) (R_sign_173_run hL h))
        · refine ai (r_icmp_ne_t (pc := 89) (tgt := 99) (by decide +kernel : decode k_R_sign.2.1 89 = .ok (.if_icmp .ne (10), 3)) (by decide) c4) ?_
          refine ai (r_iload_n (pc := 99) (k := 4) (by decide +kernel : decode k_R_sign.2.1 99 = .ok (.iload_n 2, 1)) rfl rfl) ?_
          refine ai (r_bipush (pc := 100) (by decide +kernel : decode k_R_sign.2.1 100 = .ok (.bipush (43), 2)) (by decide : _ = (43 : Int32))) ?_
          rcases ite_some h with ⟨c5, h⟩ | ⟨c5, h⟩
          · refine ai (r_icmp_ne_f (pc := 102) 112 (by decide +kernel : decode k_R_sign.2.1 102 = .ok (.if_icmp .ne (10), 3)) (by decide) c5) ?_
            refine ai (r_bipush (pc := 105) (by decide +kernel : decode k_R_sign.2.1 105 = .ok (.bipush (8), 2)) (by decide : _ = (8 : Int32))) ?_
            refine ai (e_istore (pc := 107) rfl (by decide +kernel : decode k_R_sign.2.1 107 = .ok (.istore 5, 2)) (by decide) rfl) ?_
            refine ai (r_goto (pc := 109) (tgt := 173) (by decide +kernel : decode k_R_sign.2.1 109 = .ok (.goto (64), 3)) (by decide)) ?_
            exact (ai (r_sub [2, 3, 1, 0] rfl) (R_sign_173_run hL h))
          · refine ai (r_icmp_ne_t (pc := 102) (tgt := 112) (by decide +kernel : decode k_R_sign.2.1 102 = .ok (.if_icmp .ne (10), 3)) (by decide) c5) ?_
            refine ai (r_iload_n (pc := 112) (k := 4) (by decide +kernel : decode k_R_sign.2.1 112 = .ok (.iload_n 2, 1)) rfl rfl) ?_
            refine ai (r_bipush (pc := 113) (by decide +kernel : decode k_R_sign.2.1 113 = .ok (.bipush (45), 2)) (by decide : _ = (45 : Int32))) ?_
            rcases ite_some h with ⟨c6, h⟩ | ⟨c6, h⟩
            · refine ai (r_icmp_ne_f (pc := 115) 125 (by decide +kernel : decode k_R_sign.2.1 115 = .ok (.if_icmp .ne (10), 3)) (by decide) c6) ?_
              refine ai (r_bipush (pc := 118) (by decide +kernel : decode k_R_sign.2.1 118 = .ok (.bipush (9), 2)) (by decide : _ = (9 : Int32))) ?_
              refine ai (e_istore (pc := 120) rfl (by decide +kernel : decode k_R_sign.2.1 120 = .ok (.istore 5, 2)) (by decide) rfl) ?_
              refine ai (r_goto (pc := 122) (tgt := 173) (by decide +kernel : decode k_R_sign.2.1 122 = .ok (.goto (51), 3)) (by decide)) ?_
              exact (ai (r_sub [2, 3, 1, 0] rfl) (R_sign_173_run hL h))
            · refine ai (r_icmp_ne_t (pc := 115) (tgt := 125) (by decide +kernel : decode k_R_sign.2.1 115 = .ok (.if_icmp .ne (10), 3)) (by decide) c6) ?_
              refine ai (r_iload_n (pc := 125) (k := 4) (by decide +kernel : decode k_R_sign.2.1 125 = .ok (.iload_n 2, 1)) rfl rfl) ?_
              refine ai (r_bipush (pc := 126) (by decide +kernel : decode k_R_sign.2.1 126 = .ok (.bipush (42), 2)) (by decide : _ = (42 : Int32))) ?_
              rcases ite_some h with ⟨c7, h⟩ | ⟨c7, h⟩
              · refine ai (r_icmp_ne_f (pc := 128) 138 (by decide +kernel : decode k_R_sign.2.1 128 = .ok (.if_icmp .ne (10), 3)) (by decide) c7) ?_
                refine ai (r_bipush (pc := 131) (by decide +kernel : decode k_R_sign.2.1 131 = .ok (.bipush (10), 2)) (by decide : _ = (10 : Int32))) ?_
                refine ai (e_istore (pc := 133) rfl (by decide +kernel : decode k_R_sign.2.1 133 = .ok (.istore 5, 2)) (by decide) rfl) ?_
                refine ai (r_goto (pc := 135) (tgt := 173) (by decide +kernel : decode k_R_sign.2.1 135 = .ok (.goto (38), 3)) (by decide)) ?_
                exact (ai (r_sub [2, 3, 1, 0] rfl) (R_sign_173_run hL h))
              · refine ai (r_icmp_ne_t (pc := 128) (tgt := 138) (by decide +kernel : decode k_R_sign.2.1 128 = .ok (.if_icmp .ne (10), 3)) (by decide) c7) ?_
                refine ai (r_iload_n (pc := 138) (k := 4) (by decide +kernel : decode k_R_sign.2.1 138 = .ok (.iload_n 2, 1)) rfl rfl) ?_
                refine ai (r_bipush (pc := 139) (by decide +kernel : decode k_R_sign.2.1 139 = .ok (.bipush (60), 2)) (by decide : _ = (60 : Int32))) ?_
                rcases ite_some h with ⟨c8, h⟩ | ⟨c8, h⟩
                · refine ai (r_icmp_ne_f (pc := 141) 151 (by decide +kernel : decode k_R_sign.2.1 141 = .ok (.if_icmp .ne (10), 3)) (by decide) c8) ?_
                  refine ai (r_bipush (pc := 144) (by decide +kernel : decode k_R_sign.2.1 144 = .ok (.bipush (13), 2)) (by decide : _ = (13 : Int32))) ?_
                  refine ai (e_istore (pc := 146) rfl (by decide +kernel : decode k_R_sign.2.1 146 = .ok (.istore 5, 2)) (by decide) rfl) ?_
                  refine ai (r_goto (pc := 148) (tgt := 173) (by decide +kernel : decode k_R_sign.2.1 148 = .ok (.goto (25), 3)) (by decide)) ?_
                  exact (ai (r_sub [2, 3, 1, 0] rfl) (R_sign_173_run hL h))
                · refine ai (r_icmp_ne_t (pc := 141) (tgt := 151) (by decide +kernel : decode k_R_sign.2.1 141 = .ok (.if_icmp .ne (10), 3)) (by decide) c8) ?_
                  refine ai (r_iload_n (pc := 151) (k := 4) (by decide +kernel : decode k_R_sign.2.1 151 = .ok (.iload_n 2, 1)) rfl rfl) ?_
                  refine ai (r_bipush (pc := 152) (by decide +kernel : decode k_R_sign.2.1 152 = .ok (.bipush (44), 2)) (by decide : _ = (44 : Int32))) ?_
                  rcases ite_some h with ⟨c9, h⟩ | ⟨c9, h⟩
                  · refine ai (r_icmp_ne_f (pc := 154) 163 (by decide +kernel : decode k_R_sign.2.1 154 = .ok (.if_icmp .ne (9), 3)) (by decide) c9) ?_
                    refine ai (r_iconst (pc := 157) (by decide +kernel : decode k_R_sign.2.1 157 = .ok (.iconst 5, 1)) ic_5) ?_
                    refine ai (e_istore (pc := 158) rfl (by decide +kernel : decode k_R_sign.2.1 158 = .ok (.istore 5, 2)) (by decide) rfl) ?_
                    refine ai (r_goto (pc := 160) (tgt := 173) (by decide +kernel : decode k_R_sign.2.1 160 = .ok (.goto (13), 3)) (by decide)) ?_
                    exact (ai (r_sub [2, 3, 1, 0] rfl) (R_sign_173_run hL h))
                  · refine ai (r_icmp_ne_t (pc := 154) (tgt := 163) (by decide +kernel : decode k_R_sign.2.1 154 = .ok (.if_icmp .ne (9), 3)) (by decide) c9) ?_
                    refine ai (r_iload_n (pc := 163) (k := 4) (by decide +kernel : decode k_R_sign.2.1 163 = .ok (.iload_n 2, 1)) rfl rfl) ?_
                    refine ai (r_bipush (pc := 164) (by decide +kernel : decode k_R_sign.2.1 164 = .ok (.bipush (47), 2)) (by decide : _ = (47 : Int32))) ?_
                    rcases ite_some h with ⟨c10, h⟩ | ⟨c10, h⟩
                    · refine ai (r_icmp_ne_f (pc := 166) 173 (by decide +kernel : decode k_R_sign.2.1 166 = .ok (.if_icmp .ne (7), 3)) (by decide) c10) ?_
                      refine ai (r_bipush (pc := 169) (by decide +kernel : decode k_R_sign.2.1 169 = .ok (.bipush (15), 2)) (by decide : _ = (15 : Int32))) ?_
                      refine ai (e_istore (pc := 171) rfl (by decide +kernel : decode k_R_sign.2.1 171 = .ok (.istore 5, 2)) (by decide) rfl) ?_
                      exact (ai (r_sub [2, 3, 1, 0] rfl) (R_sign_173_run hL h))
                    · refine ai (r_icmp_ne_t (pc := 166) (tgt := 173) (by decide +kernel : decode k_R_sign.2.1 166 = .ok (.if_icmp .ne (7), 3)) (by decide) c10) ?_
                      exact (ai (r_sub [2, 3, 1, 0] rfl) (R_sign_173_run hL h))
  · refine ai (r_if_le_f (pc := 51) 61 (by decide +kernel : decode k_R_sign.2.1 51 = .ok (.ifCond .le (10), 3)) (by decide) c1) ?_
    refine ai (r_iload (pc := 54) (k := 1) (by decide +kernel : decode k_R_sign.2.1 54 = .ok (.iload 4, 2)) rfl) ?_
    refine ai (e_istore (pc := 56) rfl (by decide +kernel : decode k_R_sign.2.1 56 = .ok (.istore 5, 2)) (by decide) rfl) ?_
    refine ai (r_goto (pc := 58) (tgt := 173) (by decide +kernel : decode k_R_sign.2.1 58 = .ok (.goto (115), 3)) (by decide)) ?_
    exact (ai (r_sub [2, 3, 1, 0] rfl) (R_sign_173_run hL h))
set_option maxRecDepth 100000 in
set_option maxHeartbeats 4000000 in
theorem R_sign_run {x1 : Int32} {x2 : Int32} {x3 : Int32} {m m' : Mem} {r : Int32} (hL : RL m) (h : R_sign x1 x2 x3 m = some (r, m')) : Run k_R_sign 0 [(0, .ref 0), (1, .int x1), (2, .int x2), (3, .int x3)] [] m (some (.int r)) m' ∧ RL m' := by
  unfold R_sign at h
  refine ai (r_iload_n (pc := 0) (k := 3) (by decide +kernel : decode k_R_sign.2.1 0 = .ok (.iload_n 3, 1)) rfl rfl) ?_
  refine ai (r_bipush (pc := 1) (by decide +kernel : decode k_R_sign.2.1 1 = .ok (.bipush (61), 2)) (by decide : _ = (61 : Int32))) ?_
  rcases ite_some h with ⟨c1, h⟩ | ⟨c1, h⟩
  · refine ai (r_icmp_eq_t (pc := 3) (tgt := 10) (by decide +kernel : decode k_R_sign.2.1 3 = .ok (.if_icmp .eq (7), 3)) (by decide) c1) ?_
    refine ai (r_iload_n (pc := 10) (k := 2) (by decide +kernel : decode k_R_sign.2.1 10 = .ok (.iload_n 2, 1)) rfl rfl) ?_
    refine ai (r_bipush (pc := 11) (by decide +kernel : decode k_R_sign.2.1 11 = .ok (.bipush (61), 2)) (by decide : _ = (61 : Int32))) ?_
    rcases ite_some h with ⟨c2, h⟩ | ⟨c2, h⟩
    · refine ai (r_icmp_ne_f (pc := 13) 21 (by decide +kernel : decode k_R_sign.2.1 13 = .ok (.if_icmp .ne (8), 3)) (by decide) c2) ?_
      refine ai (r_bipush (pc := 16) (by decide +kernel : decode k_R_sign.2.1 16 = .ok (.bipush (11), 2)) (by decide : _ = (11 : Int32))) ?_
      refine ai (r_goto (pc := 18) (tgt := 44) (by decide +kernel : decode k_R_sign.2.1 18 = .ok (.goto (26), 3)) (by decide)) ?_
      exact (ai (r_sub [0, 1, 2] rfl) (R_sign_44_run hL h))
    · refine ai (r_icmp_ne_t (pc := 13) (tgt := 21) (by decide +kernel : decode k_R_sign.2.1 13 = .ok (.if_icmp .ne (8), 3)) (by decide) c2) ?_
      refine ai (r_iload_n (pc := 21) (k := 2) (by decide +kernel : decode k_R_sign.2.1 21 = .ok (.iload_n 2, 1)) rfl rfl) ?_
      refine ai (r_bipush (pc := 22) (by decide +kernel : decode k_R_sign.2.1 22 = .ok (.bipush (33), 2)) (by decide : _ = (33 : Int32))) ?_
      rcases ite_some h with ⟨c3, h⟩ | ⟨c3, h⟩
      · refine ai (r_icmp_ne_f (pc := 24) 32 (by decide +kernel : decode k_R_sign.2.1 24 = .ok (.if_icmp .ne (8), 3)) (by decide) c3) ?_
        refine ai (r_bipush (pc := 27) (by decide +kernel : decode k_R_sign.2.1 27 = .ok (.bipush (12), 2)) (by decide : _ = (12 : Int32))) ?_
        refine ai (r_goto (pc := 29) (tgt := 44) (by decide +kernel : decode k_R_sign.2.1 29 = .ok (.goto (15), 3)) (by decide)) ?_
        exact (ai (r_sub [0, 1, 2] rfl) (R_sign_44_run hL h))
      · refine ai (r_icmp_ne_t (pc := 24) (tgt := 32) (by decide +kernel : decode k_R_sign.2.1 24 = .ok (.if_icmp .ne (8), 3)) (by decide) c3) ?_
        refine ai (r_iload_n (pc := 32) (k := 2) (by decide +kernel : decode k_R_sign.2.1 32 = .ok (.iload_n 2, 1)) rfl rfl) ?_
        refine ai (r_bipush (pc := 33) (by decide +kernel : decode k_R_sign.2.1 33 = .ok (.bipush (60), 2)) (by decide : _ = (60 : Int32))) ?_
        rcases ite_some h with ⟨c4, h⟩ | ⟨c4, h⟩
        · refine ai (r_icmp_ne_f (pc := 35) 43 (by decide +kernel : decode k_R_sign.2.1 35 = .ok (.if_icmp .ne (8), 3)) (by decide) c4) ?_
          refine ai (r_bipush (pc := 38) (by decide +kernel : decode k_R_sign.2.1 38 = .ok (.bipush (14), 2)) (by decide : _ = (14 : Int32))) ?_
          refine ai (r_goto (pc := 40) (tgt := 44) (by decide +kernel : decode k_R_sign.2.1 40 = .ok (.goto (4), 3)) (by decide)) ?_
          exact (ai (r_sub [0, 1, 2] rfl) (R_sign_44_run hL h))
        · refine ai (r_icmp_ne_t (pc := 35) (tgt := 43) (by decide +kernel : decode k_R_sign.2.1 35 = .ok (.if_icmp .ne (8), 3)) (by decide) c4) ?_
          refine ai (r_iconst (pc := 43) (by decide +kernel : decode k_R_sign.2.1 43 = .ok (.iconst 0, 1)) ic_0) ?_
          exact (ai (r_sub [0, 1, 2] rfl) (R_sign_44_run hL h))
  · refine ai (r_icmp_eq_f (pc := 3) 10 (by decide +kernel : decode k_R_sign.2.1 3 = .ok (.if_icmp .eq (7), 3)) (by decide) c1) ?_
    refine ai (r_iconst (pc := 6) (by decide +kernel : decode k_R_sign.2.1 6 = .ok (.iconst 0, 1)) ic_0) ?_
    refine ai (r_goto (pc := 7) (tgt := 44) (by decide +kernel : decode k_R_sign.2.1 7 = .ok (.goto (37), 3)) (by decide)) ?_
    exact (ai (r_sub [0, 1, 2] rfl) (R_sign_44_run hL h))
set_option maxRecDepth 100000 in
set_option maxHeartbeats 4000000 in
theorem R_cut_31_run {m m' : Mem} {r : Unit} (hL : RL m) (h : R_cut_31 m = some (r, m')) : Run k_R_cut 31 [(0, .ref 0)] [] m none m' ∧ RL m' := by
  unfold R_cut_31 at h
  refine ai (p_aload_n (pc := 31) (k := 0) (by decide +kernel : decode k_R_cut.2.1 31 = .ok (.aload_n 0, 1)) rfl rfl) ?_
  refine ai (r_iconst (pc := 32) (by decide +kernel : decode k_R_cut.2.1 32 = .ok (.iconst 0, 1)) ic_0) ?_
  refine ai (p_aload_n (pc := 33) (k := 0) (by decide +kernel : decode k_R_cut.2.1 33 = .ok (.aload_n 0, 1)) rfl rfl) ?_
  refine ai (r_getI (pc := 34) (by decide +kernel : decode k_R_cut.2.1 34 = .ok (.getfield 283, 3)) lg_12_283 (by decide) (RC_0 hL).1) ?_
  refine ai (r_iconst (pc := 37) (by decide +kernel : decode k_R_cut.2.1 37 = .ok (.iconst 0, 1)) ic_0) ?_
  refine ai (r_lconst (pc := 38) (x := 0) (by decide +kernel : decode k_R_cut.2.1 38 = .ok (.lconst 0, 1)) (by decide)) ?_
  obtain ⟨r1, m2, hr1, h⟩ := bn_some h
  have q3 := R_token_run hL hr1
  have c4 := (RC_0 hL).1
  have hL := q3.2
  refine ai (q_callV (pc := 39) (As := [.int 0, .int (mI m 1540 0), .int 0, .long 0]) (st := []) (st2 := []) (b := 0) rfl rfl (by decide +kernel : decode k_R_cut.2.1 39 = .ok (.invokevirtual 299, 3)) lc_12_299 mo_R_token ⟨Nat.le_of_ble_eq_true rfl, Nat.le_of_ble_eq_true rfl⟩ (Nat.le_of_ble_eq_true rfl) (Nat.le_of_ble_eq_true rfl) c4 q3.1) ?_
  cases h
  exact ⟨r_vret rfl (by decide +kernel : decode k_R_cut.2.1 42 = .ok (.return_, 1)), hL⟩
set_option maxRecDepth 100000 in
set_option maxHeartbeats 4000000 in
theorem R_cut_291_run {k7 : Int32 → Mem → Option (Unit × Mem)} {x1 : Int32} {m m' : Mem} {r : Unit} (hk7 : ∀ (x1 : Int32) (m : Mem) (r : Unit) (m' : Mem), RL m → k7 x1 m = some (r, m') → Run k_R_cut 7 [(0, .ref 0), (1, .int x1)] [] m none m' ∧ RL m') (hL : RL m) (h : R_cut_291 k7 x1 m = some (r, m')) : Run k_R_cut 291 [(0, .ref 0), (1, .int x1)] [] m none m' ∧ RL m' := by
  unfold R_cut_291 at h
  refine ai (r_goto (pc := 291) (tgt := 7) (by decide +kernel : decode k_R_cut.2.1 291 = .ok (.goto (-284), 3)) (by decide)) ?_
  exact (hk7 x1 m _ _ hL h)
set_option maxRecDepth 100000 in
set_option maxHeartbeats 4000000 in
theorem R_cut_67_run {k7 : Int32 → Mem → Option (Unit × Mem)} {x1 : Int32} {m m' : Mem} {r : Unit} (hk7 : ∀ (x1 : Int32) (m : Mem) (r : Unit) (m' : Mem), RL m → k7 x1 m = some (r, m') → Run k_R_cut 7 [(0, .ref 0), (1, .int x1)] [] m none m' ∧ RL m') (hL : RL m) (h : R_cut_67 k7 x1 m = some (r, m')) : Run k_R_cut 67 [(0, .ref 0), (1, .int x1)] [] m none m' ∧ RL m' := by
  unfold R_cut_67 at h
  obtain ⟨v1, hv1, h⟩ := vb_some h
  refine ai (e_iinc (pc := 67) (k := 1) hv1 ic_1 (by decide +kernel : decode k_R_cut.2.1 67 = .ok (.iinc 1 (1), 3)) rfl (by decide) rfl) ?_
  refine ai (r_goto (pc := 70) (tgt := 291) (by decide +kernel : decode k_R_cut.2.1 70 = .ok (.goto (221), 3)) (by decide)) ?_
  exact (ai (r_sub [1, 0] rfl) (R_cut_291_run hk7 hL h))
set_option maxRecDepth 100000 in
set_option maxHeartbeats 4000000 in
theorem R_cut_118_run {k7 : Int32 → Mem → Option (Unit × Mem)} {k85 : Int32 → Int32 → Int64 → Mem → Option (Unit × Mem)} {x1 : Int32} {x3 : Int32} {x4 : Int64} {m m' : Mem} {r : Unit} (hk7 : ∀ (x1 : Int32) (m : Mem) (r : Unit) (m' : Mem), RL m → k7 x1 m = some (r, m') → Run k_R_cut 7 [(0, .ref 0), (1, .int x1)] [] m none m' ∧ RL m') (hk85 : ∀ (x1 : Int32) (x3 : Int32) (x4 : Int64) (m : Mem) (r : Unit) (m' : Mem), RL m → k85 x1 x3 x4 m = some (r, m') → Run k_R_cut 85 [(0, .ref 0), (1, .int x1), (3, .int x3), (4, .long x4)] [] m none m' ∧ RL m') (hL : RL m) (h : R_cut_118 k7 k85 x1 x3 x4 m = some (r, m')) : Run k_R_cut 118 [(0, .ref 0), (1, .int x1), (3, .int x3), (4, .long x4)] [] m none m' ∧ RL m' := by
  unfold R_cut_118 at h
  obtain ⟨v1, hv1, h⟩ := vb_some h
  refine ai (e_iinc (pc := 118) (k := 2) hv1 ic_1 (by decide +kernel : decode k_R_cut.2.1 118 = .ok (.iinc 3 (1), 3)) rfl (by decide) rfl) ?_
  refine ai (r_goto (pc := 121) (tgt := 85) (by decide +kernel : decode k_R_cut.2.1 121 = .ok (.goto (-36), 3)) (by decide)) ?_
  exact (ai (r_sub [1, 2, 0, 3] rfl) (hk85 x1 v1 x4 m _ _ hL h))
set_option maxRecDepth 100000 in
set_option maxHeartbeats 4000000 in
theorem R_cut_173_run {k7 : Int32 → Mem → Option (Unit × Mem)} {k146 : Int32 → Int32 → Int64 → Int32 → Int32 → Mem → Option (Unit × Mem)} {x1 : Int32} {x3 : Int32} {x4 : Int64} {x6 : Int32} {x7 : Int32} {m m' : Mem} {r : Unit} (hk7 : ∀ (x1 : Int32) (m : Mem) (r : Unit) (m' : Mem), RL m → k7 x1 m = some (r, m') → Run k_R_cut 7 [(0, .ref 0), (1, .int x1)] [] m none m' ∧ RL m') (hk146 : ∀ (x1 : Int32) (x3 : Int32) (x4 : Int64) (x6 : Int32) (x7 : Int32) (m : Mem) (r : Unit) (m' : Mem), RL m → k146 x1 x3 x4 x6 x7 m = some (r, m') → Run k_R_cut 146 [(0, .ref 0), (1, .int x1), (3, .int x3), (4, .long x4), (6, .int x6), (7, .int x7)] [] m none m' ∧ RL m') (hL : RL m) (h : R_cut_173 k7 k146 x1 x3 x4 x6 x7 m = some (r, m')) : Run k_R_cut 173 [(0, .ref 0), (1, .int x1), (3, .int x3), (4, .long x4), (6, .int x6), (7, .int x7)] [] m none m' ∧ RL m' := by
  unfold R_cut_173 at h
  obtain ⟨v1, hv1, h⟩ := vb_some h
  refine ai (e_iinc (pc := 173) (k := 5) hv1 ic_1 (by decide +kernel : decode k_R_cut.2.1 173 = .ok (.iinc 7 (1), 3)) rfl (by decide) rfl) ?_
  refine ai (r_goto (pc := 176) (tgt := 146) (by decide +kernel : decode k_R_cut.2.1 176 = .ok (.goto (-30), 3)) (by decide)) ?_
  exact (ai (r_sub [1, 2, 3, 4, 5, 0] rfl) (hk146 x1 x3 x4 x6 v1 m _ _ hL h))
set_option maxRecDepth 100000 in
set_option maxHeartbeats 4000000 in
theorem R_cut_179_run {k7 : Int32 → Mem → Option (Unit × Mem)} {x1 : Int32} {x3 : Int32} {x4 : Int64} {x6 : Int32} {m m' : Mem} {r : Unit} (hk7 : ∀ (x1 : Int32) (m : Mem) (r : Unit) (m' : Mem), RL m → k7 x1 m = some (r, m') → Run k_R_cut 7 [(0, .ref 0), (1, .int x1)] [] m none m' ∧ RL m') (hL : RL m) (h : R_cut_179 k7 x1 x3 x4 x6 m = some (r, m')) : Run k_R_cut 179 [(0, .ref 0), (1, .int x1), (3, .int x3), (4, .long x4), (6, .int x6)] [] m none m' ∧ RL m' := by
  unfold R_cut_179 at h
  refine ai (p_aload_n (pc := 179) (k := 0) (by decide +kernel : decode k_R_cut.2.1 179 = .ok (.aload_n 0, 1)) rfl rfl) ?_
  refine ai (r_iload (pc := 180) (k := 4) (by decide +kernel : decode k_R_cut.2.1 180 = .ok (.iload 6, 2)) rfl) ?_
  refine ai (r_iload_n (pc := 182) (k := 1) (by decide +kernel : decode k_R_cut.2.1 182 = .ok (.iload_n 1, 1)) rfl rfl) ?_
  refine ai (r_iconst (pc := 183) (by decide +kernel : decode k_R_cut.2.1 183 = .ok (.iconst 0, 1)) ic_0) ?_
  refine ai (r_lload (pc := 184) (k := 3) (by decide +kernel : decode k_R_cut.2.1 184 = .ok (.lload 4, 2)) rfl) ?_
  obtain ⟨r1, m2, hr1, h⟩ := bn_some h
  have q3 := R_token_run hL hr1
  have c4 := (RC_0 hL).1
  have hL := q3.2
  refine ai (q_callV (pc := 186) (As := [.int x6, .int x1, .int 0, .long x4]) (st := []) (st2 := []) (b := 0) rfl rfl (by decide +kernel : decode k_R_cut.2.1 186 = .ok (.invokevirtual 299, 3)) lc_12_299 mo_R_token ⟨Nat.le_of_ble_eq_true rfl, Nat.le_of_ble_eq_true rfl⟩ (Nat.le_of_ble_eq_true rfl) (Nat.le_of_ble_eq_true rfl) c4 q3.1) ?_
  refine ai (r_iload_n (pc := 189) (k := 1) (by decide +kernel : decode k_R_cut.2.1 189 = .ok (.iload_n 1, 1)) rfl rfl) ?_
  refine ai (r_iload_n (pc := 190) (k := 2) (by decide +kernel : decode k_R_cut.2.1 190 = .ok (.iload_n 3, 1)) rfl rfl) ?_
  refine ai (r_iadd (pc := 191) (by decide +kernel : decode k_R_cut.2.1 191 = .ok (.iadd, 1))) ?_
  obtain ⟨v5, hv5, h⟩ := vb_some h
  refine ai (e_istore_n (pc := 192) hv5 (by decide +kernel : decode k_R_cut.2.1 192 = .ok (.istore_n 1, 1)) rfl (by decide) rfl) ?_
  refine ai (r_goto (pc := 193) (tgt := 291) (by decide +kernel : decode k_R_cut.2.1 193 = .ok (.goto (98), 3)) (by decide)) ?_
  exact (ai (r_sub [1, 0] rfl) (R_cut_291_run hk7 hL h))
set_option maxRecDepth 100000 in
set_option maxHeartbeats 4000000 in
theorem R_cut_146_run {k7 : Int32 → Mem → Option (Unit × Mem)} {n : Nat} {x1 : Int32} {x3 : Int32} {x4 : Int64} {x6 : Int32} {x7 : Int32} {m m' : Mem} {r : Unit} (hk7 : ∀ (x1 : Int32) (m : Mem) (r : Unit) (m' : Mem), RL m → k7 x1 m = some (r, m') → Run k_R_cut 7 [(0, .ref 0), (1, .int x1)] [] m none m' ∧ RL m') (hL : RL m) (h : R_cut_146 k7 n x1 x3 x4 x6 x7 m = some (r, m')) : Run k_R_cut 146 [(0, .ref 0), (1, .int x1), (3, .int x3), (4, .long x4), (6, .int x6), (7, .int x7)] [] m none m' ∧ RL m' := by
  induction n generalizing x1 x3 x4 x6 x7 m r m' with
  | zero => exact absurd h (by simp [R_cut_146])
  | succ n ih =>
    rw [R_cut_146.eq_2] at h
    refine ai (r_iload (pc := 146) (k := 5) (by decide +kernel : decode k_R_cut.2.1 146 = .ok (.iload 7, 2)) rfl) ?_
    refine ai (r_bipush (pc := 148) (by decide +kernel : decode k_R_cut.2.1 148 = .ok (.bipush (40), 2)) (by decide : _ = (40 : Int32))) ?_
    rcases ite_some h with ⟨c1, h⟩ | ⟨c1, h⟩
    · refine ai (r_icmp_ge_t (pc := 150) (tgt := 179) (by decide +kernel : decode k_R_cut.2.1 150 = .ok (.if_icmp .ge (29), 3)) (by decide) c1) ?_
      exact (ai (r_sub [0, 1, 2, 3, 4] rfl) (R_cut_179_run hk7 hL h))
    · refine ai (r_icmp_ge_f (pc := 150) 179 (by decide +kernel : decode k_R_cut.2.1 150 = .ok (.if_icmp .ge (29), 3)) (by decide) c1) ?_
      refine ai (p_aload_n (pc := 153) (k := 0) (by decide +kernel : decode k_R_cut.2.1 153 = .ok (.aload_n 0, 1)) rfl rfl) ?_
      refine ai (p_getr (pc := 154) (RR_1545_0 hL) (by decide +kernel : decode k_R_cut.2.1 154 = .ok (.getfield 34, 3)) lg_12_34 (RC_0 hL).1) ?_
      refine ai (r_iload (pc := 157) (k := 5) (by decide +kernel : decode k_R_cut.2.1 157 = .ok (.iload 7, 2)) rfl) ?_
      obtain ⟨g2, h⟩ := gd_some h
      refine ai (p_lald (pc := 159) (by decide +kernel : decode k_R_cut.2.1 159 = .ok (.laload, 1)) (RC_7 hL).1 (RC_7 hL).2 g2) ?_
      refine ai (r_lload (pc := 160) (k := 3) (by decide +kernel : decode k_R_cut.2.1 160 = .ok (.lload 4, 2)) rfl) ?_
      refine ai (r_lcmp (pc := 162) (by decide +kernel : decode k_R_cut.2.1 162 = .ok (.lcmp, 1))) ?_
      rcases ite_some h with ⟨c3, h⟩ | ⟨c3, h⟩
      · refine ai (r_if_ne_f (pc := 163) 173 (by decide +kernel : decode k_R_cut.2.1 163 = .ok (.ifCond .ne (10), 3)) (by decide) c3) ?_
        refine ai (r_bipush (pc := 166) (by decide +kernel : decode k_R_cut.2.1 166 = .ok (.bipush (20), 2)) (by decide : _ = (20 : Int32))) ?_
        refine ai (r_iload (pc := 168) (k := 5) (by decide +kernel : decode k_R_cut.2.1 168 = .ok (.iload 7, 2)) rfl) ?_
        refine ai (r_iadd (pc := 170) (by decide +kernel : decode k_R_cut.2.1 170 = .ok (.iadd, 1))) ?_
        obtain ⟨v4, hv4, h⟩ := vb_some h
        refine ai (e_istore (pc := 171) hv4 (by decide +kernel : decode k_R_cut.2.1 171 = .ok (.istore 6, 2)) (by decide) rfl) ?_
        exact (ai (r_sub [1, 2, 3, 4, 0, 5] rfl) (R_cut_173_run hk7 (fun _ _ _ _ _ _ _ _ q1 q3 => ih q1 q3) hL h))
      · refine ai (r_if_ne_t (pc := 163) (tgt := 173) (by decide +kernel : decode k_R_cut.2.1 163 = .ok (.ifCond .ne (10), 3)) (by decide) c3) ?_
        exact (R_cut_173_run hk7 (fun _ _ _ _ _ _ _ _ q1 q3 => ih q1 q3) hL h)
set_option maxRecDepth 100000 in
set_option maxHeartbeats 4000000 in
theorem R_cut_135_run {k7 : Int32 → Mem → Option (Unit × Mem)} {x1 : Int32} {x3 : Int32} {x4 : Int64} {s0 : Int32} {m m' : Mem} {r : Unit} (hk7 : ∀ (x1 : Int32) (m : Mem) (r : Unit) (m' : Mem), RL m → k7 x1 m = some (r, m') → Run k_R_cut 7 [(0, .ref 0), (1, .int x1)] [] m none m' ∧ RL m') (hL : RL m) (h : R_cut_135 k7 x1 x3 x4 s0 m = some (r, m')) : Run k_R_cut 135 [(0, .ref 0), (1, .int x1), (3, .int x3), (4, .long x4)] [.int s0] m none m' ∧ RL m' := by
  unfold R_cut_135 at h
  refine ai (e_istore (pc := 135) rfl (by decide +kernel : decode k_R_cut.2.1 135 = .ok (.istore 6, 2)) (by decide) rfl) ?_
  refine ai (r_iload_n (pc := 137) (k := 3) (by decide +kernel : decode k_R_cut.2.1 137 = .ok (.iload_n 3, 1)) rfl rfl) ?_
  refine ai (r_bipush (pc := 138) (by decide +kernel : decode k_R_cut.2.1 138 = .ok (.bipush (7), 2)) (by decide : _ = (7 : Int32))) ?_
  rcases ite_some h with ⟨c1, h⟩ | ⟨c1, h⟩
  · refine ai (r_icmp_gt_t (pc := 140) (tgt := 179) (by decide +kernel : decode k_R_cut.2.1 140 = .ok (.if_icmp .gt (39), 3)) (by decide) c1) ?_
    exact (ai (r_sub [1, 2, 3, 4, 0] rfl) (R_cut_179_run hk7 hL h))
  · refine ai (r_icmp_gt_f (pc := 140) 179 (by decide +kernel : decode k_R_cut.2.1 140 = .ok (.if_icmp .gt (39), 3)) (by decide) c1) ?_
    refine ai (r_iconst (pc := 143) (by decide +kernel : decode k_R_cut.2.1 143 = .ok (.iconst 0, 1)) ic_0) ?_
    refine ai (e_istore (pc := 144) rfl (by decide +kernel : decode k_R_cut.2.1 144 = .ok (.istore 7, 2)) (by decide) rfl) ?_
    exact (ai (r_sub [2, 3, 4, 5, 1, 0] rfl) (R_cut_146_run hk7 hL h))
set_option maxRecDepth 100000 in
set_option maxHeartbeats 4000000 in
theorem R_cut_124_run {k7 : Int32 → Mem → Option (Unit × Mem)} {x1 : Int32} {x3 : Int32} {x4 : Int64} {m m' : Mem} {r : Unit} (hk7 : ∀ (x1 : Int32) (m : Mem) (r : Unit) (m' : Mem), RL m → k7 x1 m = some (r, m') → Run k_R_cut 7 [(0, .ref 0), (1, .int x1)] [] m none m' ∧ RL m') (hL : RL m) (h : R_cut_124 k7 x1 x3 x4 m = some (r, m')) : Run k_R_cut 124 [(0, .ref 0), (1, .int x1), (3, .int x3), (4, .long x4)] [] m none m' ∧ RL m' := by
  unfold R_cut_124 at h
  refine ai (r_iload_n (pc := 124) (k := 2) (by decide +kernel : decode k_R_cut.2.1 124 = .ok (.iload_n 3, 1)) rfl rfl) ?_
  refine ai (r_bipush (pc := 125) (by decide +kernel : decode k_R_cut.2.1 125 = .ok (.bipush (8), 2)) (by decide : _ = (8 : Int32))) ?_
  rcases ite_some h with ⟨c1, h⟩ | ⟨c1, h⟩
  · refine ai (r_icmp_le_t (pc := 127) (tgt := 134) (by decide +kernel : decode k_R_cut.2.1 127 = .ok (.if_icmp .le (7), 3)) (by decide) c1) ?_
    refine ai (r_iconst (pc := 134) (by decide +kernel : decode k_R_cut.2.1 134 = .ok (.iconst 1, 1)) ic_1) ?_
    exact (R_cut_135_run hk7 hL h)
  · refine ai (r_icmp_le_f (pc := 127) 134 (by decide +kernel : decode k_R_cut.2.1 127 = .ok (.if_icmp .le (7), 3)) (by decide) c1) ?_
    refine ai (r_iconst (pc := 130) (by decide +kernel : decode k_R_cut.2.1 130 = .ok (.iconst 3, 1)) ic_3) ?_
    refine ai (r_goto (pc := 131) (tgt := 135) (by decide +kernel : decode k_R_cut.2.1 131 = .ok (.goto (4), 3)) (by decide)) ?_
    exact (R_cut_135_run hk7 hL h)
set_option maxRecDepth 100000 in
set_option maxHeartbeats 4000000 in
theorem R_cut_85_run {k7 : Int32 → Mem → Option (Unit × Mem)} {n : Nat} {x1 : Int32} {x3 : Int32} {x4 : Int64} {m m' : Mem} {r : Unit} (hk7 : ∀ (x1 : Int32) (m : Mem) (r : Unit) (m' : Mem), RL m → k7 x1 m = some (r, m') → Run k_R_cut 7 [(0, .ref 0), (1, .int x1)] [] m none m' ∧ RL m') (hL : RL m) (h : R_cut_85 k7 n x1 x3 x4 m = some (r, m')) : Run k_R_cut 85 [(0, .ref 0), (1, .int x1), (3, .int x3), (4, .long x4)] [] m none m' ∧ RL m' := by
  induction n generalizing x1 x3 x4 m r m' with
  | zero => exact absurd h (by simp [R_cut_85])
  | succ n ih =>
    rw [R_cut_85.eq_2] at h
    refine ai (p_aload_n (pc := 85) (k := 0) (by decide +kernel : decode k_R_cut.2.1 85 = .ok (.aload_n 0, 1)) rfl rfl) ?_
    refine ai (r_iload_n (pc := 86) (k := 1) (by decide +kernel : decode k_R_cut.2.1 86 = .ok (.iload_n 1, 1)) rfl rfl) ?_
    refine ai (r_iload_n (pc := 87) (k := 2) (by decide +kernel : decode k_R_cut.2.1 87 = .ok (.iload_n 3, 1)) rfl rfl) ?_
    refine ai (r_iadd (pc := 88) (by decide +kernel : decode k_R_cut.2.1 88 = .ok (.iadd, 1))) ?_
    obtain ⟨r1, m2, hr1, h⟩ := bn_some h
    have q3 := R_at_run hL hr1
    have c4 := (RC_0 hL).1
    have hL := q3.2
    refine ai (q_callV (pc := 89) (As := [.int (x1 + x3)]) (st := []) (st2 := [.int r1]) (b := 0) rfl rfl (by decide +kernel : decode k_R_cut.2.1 89 = .ok (.invokevirtual 295, 3)) lc_12_295 mo_R_at ⟨Nat.le_of_ble_eq_true rfl, Nat.le_of_ble_eq_true rfl⟩ (Nat.le_of_ble_eq_true rfl) (Nat.le_of_ble_eq_true rfl) c4 q3.1) ?_
    obtain ⟨r5, hr5, h⟩ := bp_some h
    refine ai (q_callS (pc := 92) (As := [.int r1]) (st := []) (st2 := [.int r5]) rfl rfl (by decide +kernel : decode k_R_cut.2.1 92 = .ok (.invokestatic 303, 3)) lc_12_303 mo_R_isLetter ⟨Nat.le_of_ble_eq_true rfl, Nat.le_of_ble_eq_true rfl⟩ (Nat.le_of_ble_eq_true rfl) (Nat.le_of_ble_eq_true rfl) (R_isLetter_run hr5)) ?_
    rcases ite_some h with ⟨c6, h⟩ | ⟨c6, h⟩
    · refine ai (r_if_eq_t (pc := 95) (tgt := 124) (by decide +kernel : decode k_R_cut.2.1 95 = .ok (.ifCond .eq (29), 3)) (by decide) c6) ?_
      exact (R_cut_124_run hk7 hL h)
    · refine ai (r_if_eq_f (pc := 95) 124 (by decide +kernel : decode k_R_cut.2.1 95 = .ok (.ifCond .eq (29), 3)) (by decide) c6) ?_
      refine ai (r_iload_n (pc := 98) (k := 2) (by decide +kernel : decode k_R_cut.2.1 98 = .ok (.iload_n 3, 1)) rfl rfl) ?_
      refine ai (r_bipush (pc := 99) (by decide +kernel : decode k_R_cut.2.1 99 = .ok (.bipush (8), 2)) (by decide : _ = (8 : Int32))) ?_
      rcases ite_some h with ⟨c7, h⟩ | ⟨c7, h⟩
      · refine ai (r_icmp_ge_t (pc := 101) (tgt := 118) (by decide +kernel : decode k_R_cut.2.1 101 = .ok (.if_icmp .ge (17), 3)) (by decide) c7) ?_
        exact (R_cut_118_run hk7 (fun _ _ _ _ _ _ q1 q3 => ih q1 q3) hL h)
      · refine ai (r_icmp_ge_f (pc := 101) 118 (by decide +kernel : decode k_R_cut.2.1 101 = .ok (.if_icmp .ge (17), 3)) (by decide) c7) ?_
        refine ai (r_lload (pc := 104) (k := 3) (by decide +kernel : decode k_R_cut.2.1 104 = .ok (.lload 4, 2)) rfl) ?_
        refine ai (p_aload_n (pc := 106) (k := 0) (by decide +kernel : decode k_R_cut.2.1 106 = .ok (.aload_n 0, 1)) rfl rfl) ?_
        refine ai (r_iload_n (pc := 107) (k := 1) (by decide +kernel : decode k_R_cut.2.1 107 = .ok (.iload_n 1, 1)) rfl rfl) ?_
        refine ai (r_iload_n (pc := 108) (k := 2) (by decide +kernel : decode k_R_cut.2.1 108 = .ok (.iload_n 3, 1)) rfl rfl) ?_
        refine ai (r_iadd (pc := 109) (by decide +kernel : decode k_R_cut.2.1 109 = .ok (.iadd, 1))) ?_
        obtain ⟨r8, m9, hr8, h⟩ := bn_some h
        have q10 := R_at_run hL hr8
        have c11 := (RC_0 hL).1
        have hL := q10.2
        refine ai (q_callV (pc := 110) (As := [.int (x1 + x3)]) (st := [.long x4]) (st2 := [.int r8, .long x4]) (b := 0) rfl rfl (by decide +kernel : decode k_R_cut.2.1 110 = .ok (.invokevirtual 295, 3)) lc_12_295 mo_R_at ⟨Nat.le_of_ble_eq_true rfl, Nat.le_of_ble_eq_true rfl⟩ (Nat.le_of_ble_eq_true rfl) (Nat.le_of_ble_eq_true rfl) c11 q10.1) ?_
        obtain ⟨r12, hr12, h⟩ := bp_some h
        refine ai (q_callS (pc := 113) (As := [.long x4, .int r8]) (st := []) (st2 := [.long r12]) rfl rfl (by decide +kernel : decode k_R_cut.2.1 113 = .ok (.invokestatic 288, 3)) lc_12_288 mo_R_more ⟨Nat.le_of_ble_eq_true rfl, Nat.le_of_ble_eq_true rfl⟩ (Nat.le_of_ble_eq_true rfl) (Nat.le_of_ble_eq_true rfl) (R_more_run hr12)) ?_
        refine ai (e_lstore (pc := 116) rfl (by decide +kernel : decode k_R_cut.2.1 116 = .ok (.lstore 4, 2)) (by decide) rfl) ?_
        exact (ai (r_sub [1, 2, 3, 0] rfl) (R_cut_118_run hk7 (fun _ _ _ _ _ _ q1 q3 => ih q1 q3) hL h))
set_option maxRecDepth 100000 in
set_option maxHeartbeats 4000000 in
theorem R_cut_244_run {k7 : Int32 → Mem → Option (Unit × Mem)} {k208 : Int32 → Int32 → Int32 → Mem → Option (Unit × Mem)} {x1 : Int32} {x3 : Int32} {x4 : Int32} {m m' : Mem} {r : Unit} (hk7 : ∀ (x1 : Int32) (m : Mem) (r : Unit) (m' : Mem), RL m → k7 x1 m = some (r, m') → Run k_R_cut 7 [(0, .ref 0), (1, .int x1)] [] m none m' ∧ RL m') (hk208 : ∀ (x1 : Int32) (x3 : Int32) (x4 : Int32) (m : Mem) (r : Unit) (m' : Mem), RL m → k208 x1 x3 x4 m = some (r, m') → Run k_R_cut 208 [(0, .ref 0), (1, .int x1), (3, .int x3), (4, .int x4)] [] m none m' ∧ RL m') (hL : RL m) (h : R_cut_244 k7 k208 x1 x3 x4 m = some (r, m')) : Run k_R_cut 244 [(0, .ref 0), (1, .int x1), (3, .int x3), (4, .int x4)] [] m none m' ∧ RL m' := by
  unfold R_cut_244 at h
  obtain ⟨v1, hv1, h⟩ := vb_some h
  refine ai (e_iinc (pc := 244) (k := 2) hv1 ic_1 (by decide +kernel : decode k_R_cut.2.1 244 = .ok (.iinc 3 (1), 3)) rfl (by decide) rfl) ?_
  refine ai (r_goto (pc := 247) (tgt := 208) (by decide +kernel : decode k_R_cut.2.1 247 = .ok (.goto (-39), 3)) (by decide)) ?_
  exact (ai (r_sub [1, 2, 0, 3] rfl) (hk208 x1 v1 x4 m _ _ hL h))
set_option maxRecDepth 100000 in
set_option maxHeartbeats 4000000 in
theorem R_cut_261_run {k7 : Int32 → Mem → Option (Unit × Mem)} {x1 : Int32} {x3 : Int32} {x4 : Int32} {s0 : Int32} {m m' : Mem} {r : Unit} (hk7 : ∀ (x1 : Int32) (m : Mem) (r : Unit) (m' : Mem), RL m → k7 x1 m = some (r, m') → Run k_R_cut 7 [(0, .ref 0), (1, .int x1)] [] m none m' ∧ RL m') (hL : RL m) (h : R_cut_261 k7 x1 x3 x4 s0 m = some (r, m')) : Run k_R_cut 261 [(0, .ref 0), (1, .int x1), (3, .int x3), (4, .int x4)] [.int s0, .ref 0] m none m' ∧ RL m' := by
  unfold R_cut_261 at h
  refine ai (r_iload_n (pc := 261) (k := 1) (by decide +kernel : decode k_R_cut.2.1 261 = .ok (.iload_n 1, 1)) rfl rfl) ?_
  refine ai (r_iload (pc := 262) (k := 3) (by decide +kernel : decode k_R_cut.2.1 262 = .ok (.iload 4, 2)) rfl) ?_
  refine ai (r_lconst (pc := 264) (x := 0) (by decide +kernel : decode k_R_cut.2.1 264 = .ok (.lconst 0, 1)) (by decide)) ?_
  obtain ⟨r1, m2, hr1, h⟩ := bn_some h
  have q3 := R_token_run hL hr1
  have c4 := (RC_0 hL).1
  have hL := q3.2
  refine ai (q_callV (pc := 265) (As := [.int s0, .int x1, .int x4, .long 0]) (st := []) (st2 := []) (b := 0) rfl rfl (by decide +kernel : decode k_R_cut.2.1 265 = .ok (.invokevirtual 299, 3)) lc_12_299 mo_R_token ⟨Nat.le_of_ble_eq_true rfl, Nat.le_of_ble_eq_true rfl⟩ (Nat.le_of_ble_eq_true rfl) (Nat.le_of_ble_eq_true rfl) c4 q3.1) ?_
  refine ai (r_iload_n (pc := 268) (k := 1) (by decide +kernel : decode k_R_cut.2.1 268 = .ok (.iload_n 1, 1)) rfl rfl) ?_
  refine ai (r_iload_n (pc := 269) (k := 2) (by decide +kernel : decode k_R_cut.2.1 269 = .ok (.iload_n 3, 1)) rfl rfl) ?_
  refine ai (r_iadd (pc := 270) (by decide +kernel : decode k_R_cut.2.1 270 = .ok (.iadd, 1))) ?_
  obtain ⟨v5, hv5, h⟩ := vb_some h
  refine ai (e_istore_n (pc := 271) hv5 (by decide +kernel : decode k_R_cut.2.1 271 = .ok (.istore_n 1, 1)) rfl (by decide) rfl) ?_
  refine ai (r_goto (pc := 272) (tgt := 291) (by decide +kernel : decode k_R_cut.2.1 272 = .ok (.goto (19), 3)) (by decide)) ?_
  exact (ai (r_sub [1, 0] rfl) (R_cut_291_run hk7 hL h))
set_option maxRecDepth 100000 in
set_option maxHeartbeats 4000000 in
theorem R_cut_250_run {k7 : Int32 → Mem → Option (Unit × Mem)} {x1 : Int32} {x3 : Int32} {x4 : Int32} {m m' : Mem} {r : Unit} (hk7 : ∀ (x1 : Int32) (m : Mem) (r : Unit) (m' : Mem), RL m → k7 x1 m = some (r, m') → Run k_R_cut 7 [(0, .ref 0), (1, .int x1)] [] m none m' ∧ RL m') (hL : RL m) (h : R_cut_250 k7 x1 x3 x4 m = some (r, m')) : Run k_R_cut 250 [(0, .ref 0), (1, .int x1), (3, .int x3), (4, .int x4)] [] m none m' ∧ RL m' := by
  unfold R_cut_250 at h
  refine ai (p_aload_n (pc := 250) (k := 0) (by decide +kernel : decode k_R_cut.2.1 250 = .ok (.aload_n 0, 1)) rfl rfl) ?_
  refine ai (r_iload_n (pc := 251) (k := 2) (by decide +kernel : decode k_R_cut.2.1 251 = .ok (.iload_n 3, 1)) rfl rfl) ?_
  refine ai (r_iconst (pc := 252) (by decide +kernel : decode k_R_cut.2.1 252 = .ok (.iconst 4, 1)) ic_4) ?_
  rcases ite_some h with ⟨c1, h⟩ | ⟨c1, h⟩
  · refine ai (r_icmp_le_t (pc := 253) (tgt := 260) (by decide +kernel : decode k_R_cut.2.1 253 = .ok (.if_icmp .le (7), 3)) (by decide) c1) ?_
    refine ai (r_iconst (pc := 260) (by decide +kernel : decode k_R_cut.2.1 260 = .ok (.iconst 2, 1)) ic_2) ?_
    exact (R_cut_261_run hk7 hL h)
  · refine ai (r_icmp_le_f (pc := 253) 260 (by decide +kernel : decode k_R_cut.2.1 253 = .ok (.if_icmp .le (7), 3)) (by decide) c1) ?_
    refine ai (r_iconst (pc := 256) (by decide +kernel : decode k_R_cut.2.1 256 = .ok (.iconst 3, 1)) ic_3) ?_
    refine ai (r_goto (pc := 257) (tgt := 261) (by decide +kernel : decode k_R_cut.2.1 257 = .ok (.goto (4), 3)) (by decide)) ?_
    exact (R_cut_261_run hk7 hL h)
set_option maxRecDepth 100000 in
set_option maxHeartbeats 4000000 in
theorem R_cut_208_run {k7 : Int32 → Mem → Option (Unit × Mem)} {n : Nat} {x1 : Int32} {x3 : Int32} {x4 : Int32} {m m' : Mem} {r : Unit} (hk7 : ∀ (x1 : Int32) (m : Mem) (r : Unit) (m' : Mem), RL m → k7 x1 m = some (r, m') → Run k_R_cut 7 [(0, .ref 0), (1, .int x1)] [] m none m' ∧ RL m') (hL : RL m) (h : R_cut_208 k7 n x1 x3 x4 m = some (r, m')) : Run k_R_cut 208 [(0, .ref 0), (1, .int x1), (3, .int x3), (4, .int x4)] [] m none m' ∧ RL m' := by
  induction n generalizing x1 x3 x4 m r m' with
  | zero => exact absurd h (by simp [R_cut_208])
  | succ n ih =>
    rw [R_cut_208.eq_2] at h
    refine ai (p_aload_n (pc := 208) (k := 0) (by decide +kernel : decode k_R_cut.2.1 208 = .ok (.aload_n 0, 1)) rfl rfl) ?_
    refine ai (r_iload_n (pc := 209) (k := 1) (by decide +kernel : decode k_R_cut.2.1 209 = .ok (.iload_n 1, 1)) rfl rfl) ?_
    refine ai (r_iload_n (pc := 210) (k := 2) (by decide +kernel : decode k_R_cut.2.1 210 = .ok (.iload_n 3, 1)) rfl rfl) ?_
    refine ai (r_iadd (pc := 211) (by decide +kernel : decode k_R_cut.2.1 211 = .ok (.iadd, 1))) ?_
    obtain ⟨r1, m2, hr1, h⟩ := bn_some h
    have q3 := R_at_run hL hr1
    have c4 := (RC_0 hL).1
    have hL := q3.2
    refine ai (q_callV (pc := 212) (As := [.int (x1 + x3)]) (st := []) (st2 := [.int r1]) (b := 0) rfl rfl (by decide +kernel : decode k_R_cut.2.1 212 = .ok (.invokevirtual 295, 3)) lc_12_295 mo_R_at ⟨Nat.le_of_ble_eq_true rfl, Nat.le_of_ble_eq_true rfl⟩ (Nat.le_of_ble_eq_true rfl) (Nat.le_of_ble_eq_true rfl) c4 q3.1) ?_
    obtain ⟨r5, hr5, h⟩ := bp_some h
    refine ai (q_callS (pc := 215) (As := [.int r1]) (st := []) (st2 := [.int r5]) rfl rfl (by decide +kernel : decode k_R_cut.2.1 215 = .ok (.invokestatic 307, 3)) lc_12_307 mo_R_isDigit ⟨Nat.le_of_ble_eq_true rfl, Nat.le_of_ble_eq_true rfl⟩ (Nat.le_of_ble_eq_true rfl) (Nat.le_of_ble_eq_true rfl) (R_isDigit_run hr5)) ?_
    rcases ite_some h with ⟨c6, h⟩ | ⟨c6, h⟩
    · refine ai (r_if_eq_t (pc := 218) (tgt := 250) (by decide +kernel : decode k_R_cut.2.1 218 = .ok (.ifCond .eq (32), 3)) (by decide) c6) ?_
      exact (R_cut_250_run hk7 hL h)
    · refine ai (r_if_eq_f (pc := 218) 250 (by decide +kernel : decode k_R_cut.2.1 218 = .ok (.ifCond .eq (32), 3)) (by decide) c6) ?_
      refine ai (r_iload_n (pc := 221) (k := 2) (by decide +kernel : decode k_R_cut.2.1 221 = .ok (.iload_n 3, 1)) rfl rfl) ?_
      refine ai (r_iconst (pc := 222) (by decide +kernel : decode k_R_cut.2.1 222 = .ok (.iconst 4, 1)) ic_4) ?_
      rcases ite_some h with ⟨c7, h⟩ | ⟨c7, h⟩
      · refine ai (r_icmp_ge_t (pc := 223) (tgt := 244) (by decide +kernel : decode k_R_cut.2.1 223 = .ok (.if_icmp .ge (21), 3)) (by decide) c7) ?_
        exact (R_cut_244_run hk7 (fun _ _ _ _ _ _ q1 q3 => ih q1 q3) hL h)
      · refine ai (r_icmp_ge_f (pc := 223) 244 (by decide +kernel : decode k_R_cut.2.1 223 = .ok (.if_icmp .ge (21), 3)) (by decide) c7) ?_
        refine ai (r_bipush (pc := 226) (by decide +kernel : decode k_R_cut.2.1 226 = .ok (.bipush (10), 2)) (by decide : _ = (10 : Int32))) ?_
        refine ai (r_iload (pc := 228) (k := 3) (by decide +kernel : decode k_R_cut.2.1 228 = .ok (.iload 4, 2)) rfl) ?_
        refine ai (r_imul (pc := 230) (by decide +kernel : decode k_R_cut.2.1 230 = .ok (.imul, 1))) ?_
        refine ai (p_aload_n (pc := 231) (k := 0) (by decide +kernel : decode k_R_cut.2.1 231 = .ok (.aload_n 0, 1)) rfl rfl) ?_
        refine ai (r_iload_n (pc := 232) (k := 1) (by decide +kernel : decode k_R_cut.2.1 232 = .ok (.iload_n 1, 1)) rfl rfl) ?_
        refine ai (r_iload_n (pc := 233) (k := 2) (by decide +kernel : decode k_R_cut.2.1 233 = .ok (.iload_n 3, 1)) rfl rfl) ?_
        refine ai (r_iadd (pc := 234) (by decide +kernel : decode k_R_cut.2.1 234 = .ok (.iadd, 1))) ?_
        obtain ⟨r8, m9, hr8, h⟩ := bn_some h
        have q10 := R_at_run hL hr8
        have c11 := (RC_0 hL).1
        have hL := q10.2
        refine ai (q_callV (pc := 235) (As := [.int (x1 + x3)]) (st := [.int (10 * x4)]) (st2 := [.int r8, .int (10 * x4)]) (b := 0) rfl rfl (by decide +kernel : decode k_R_cut.2.1 235 = .ok (.invokevirtual 295, 3)) lc_12_295 mo_R_at ⟨Nat.le_of_ble_eq_true rfl, Nat.le_of_ble_eq_true rfl⟩ (Nat.le_of_ble_eq_true rfl) (Nat.le_of_ble_eq_true rfl) c11 q10.1) ?_
        refine ai (r_iadd (pc := 238) (by decide +kernel : decode k_R_cut.2.1 238 = .ok (.iadd, 1))) ?_
        refine ai (r_bipush (pc := 239) (by decide +kernel : decode k_R_cut.2.1 239 = .ok (.bipush (48), 2)) (by decide : _ = (48 : Int32))) ?_
        refine ai (r_isub (pc := 241) (by decide +kernel : decode k_R_cut.2.1 241 = .ok (.isub, 1))) ?_
        obtain ⟨v12, hv12, h⟩ := vb_some h
        refine ai (e_istore (pc := 242) hv12 (by decide +kernel : decode k_R_cut.2.1 242 = .ok (.istore 4, 2)) (by decide) rfl) ?_
        exact (ai (r_sub [1, 2, 3, 0] rfl) (R_cut_244_run hk7 (fun _ _ _ _ _ _ q1 q3 => ih q1 q3) hL h))
set_option maxRecDepth 100000 in
set_option maxHeartbeats 4000000 in
theorem R_cut_7_run {n : Nat} {x1 : Int32} {m m' : Mem} {r : Unit} (hL : RL m) (h : R_cut_7 n x1 m = some (r, m')) : Run k_R_cut 7 [(0, .ref 0), (1, .int x1)] [] m none m' ∧ RL m' := by
  induction n generalizing x1 m r m' with
  | zero => exact absurd h (by simp [R_cut_7])
  | succ n ih =>
    rw [R_cut_7.eq_2] at h
    refine ai (p_aload_n (pc := 7) (k := 0) (by decide +kernel : decode k_R_cut.2.1 7 = .ok (.aload_n 0, 1)) rfl rfl) ?_
    refine ai (r_getI (pc := 8) (by decide +kernel : decode k_R_cut.2.1 8 = .ok (.getfield 292, 3)) lg_12_292 (by decide) (RC_0 hL).1) ?_
    refine ai (r_sipush (pc := 11) (by decide +kernel : decode k_R_cut.2.1 11 = .ok (.sipush (500), 3)) (by decide : _ = (500 : Int32))) ?_
    rcases ite_some h with ⟨c1, h⟩ | ⟨c1, h⟩
    · refine ai (r_icmp_gt_t (pc := 14) (tgt := 294) (by decide +kernel : decode k_R_cut.2.1 14 = .ok (.if_icmp .gt (280), 3)) (by decide) c1) ?_
      cases h
      exact ⟨r_vret rfl (by decide +kernel : decode k_R_cut.2.1 294 = .ok (.return_, 1)), hL⟩
    · refine ai (r_icmp_gt_f (pc := 14) 294 (by decide +kernel : decode k_R_cut.2.1 14 = .ok (.if_icmp .gt (280), 3)) (by decide) c1) ?_
      refine ai (p_aload_n (pc := 17) (k := 0) (by decide +kernel : decode k_R_cut.2.1 17 = .ok (.aload_n 0, 1)) rfl rfl) ?_
      refine ai (r_iload_n (pc := 18) (k := 1) (by decide +kernel : decode k_R_cut.2.1 18 = .ok (.iload_n 1, 1)) rfl rfl) ?_
      obtain ⟨r2, m3, hr2, h⟩ := bn_some h
      have q4 := R_at_run hL hr2
      have c5 := (RC_0 hL).1
      have hL := q4.2
      refine ai (q_callV (pc := 19) (As := [.int x1]) (st := []) (st2 := [.int r2]) (b := 0) rfl rfl (by decide +kernel : decode k_R_cut.2.1 19 = .ok (.invokevirtual 295, 3)) lc_12_295 mo_R_at ⟨Nat.le_of_ble_eq_true rfl, Nat.le_of_ble_eq_true rfl⟩ (Nat.le_of_ble_eq_true rfl) (Nat.le_of_ble_eq_true rfl) c5 q4.1) ?_
      refine ai (e_istore_n (pc := 22) rfl (by decide +kernel : decode k_R_cut.2.1 22 = .ok (.istore_n 2, 1)) rfl (by decide) rfl) ?_
      refine ai (r_iload_n (pc := 23) (k := 2) (by decide +kernel : decode k_R_cut.2.1 23 = .ok (.iload_n 1, 1)) rfl rfl) ?_
      refine ai (p_aload_n (pc := 24) (k := 1) (by decide +kernel : decode k_R_cut.2.1 24 = .ok (.aload_n 0, 1)) rfl rfl) ?_
      refine ai (r_getI (pc := 25) (by decide +kernel : decode k_R_cut.2.1 25 = .ok (.getfield 283, 3)) lg_12_283 (by decide) (RC_0 hL).1) ?_
      rcases ite_some h with ⟨c6, h⟩ | ⟨c6, h⟩
      · refine ai (r_icmp_lt_t (pc := 28) (tgt := 43) (by decide +kernel : decode k_R_cut.2.1 28 = .ok (.if_icmp .lt (15), 3)) (by decide) c6) ?_
        refine ai (r_iload_n (pc := 43) (k := 0) (by decide +kernel : decode k_R_cut.2.1 43 = .ok (.iload_n 2, 1)) rfl rfl) ?_
        refine ai (r_bipush (pc := 44) (by decide +kernel : decode k_R_cut.2.1 44 = .ok (.bipush (9), 2)) (by decide : _ = (9 : Int32))) ?_
        rcases ite_some h with ⟨c7, h⟩ | ⟨c7, h⟩
        · refine ai (r_icmp_eq_t (pc := 46) (tgt := 67) (by decide +kernel : decode k_R_cut.2.1 46 = .ok (.if_icmp .eq (21), 3)) (by decide) c7) ?_
          exact (ai (r_sub [1, 2] rfl) (R_cut_67_run (fun _ _ _ _ q1 q3 => ih q1 q3) hL h))
        · refine ai (r_icmp_eq_f (pc := 46) 67 (by decide +kernel : decode k_R_cut.2.1 46 = .ok (.if_icmp .eq (21), 3)) (by decide) c7) ?_
          refine ai (r_iload_n (pc := 49) (k := 0) (by decide +kernel : decode k_R_cut.2.1 49 = .ok (.iload_n 2, 1)) rfl rfl) ?_
          refine ai (r_bipush (pc := 50) (by decide +kernel : decode k_R_cut.2.1 50 = .ok (.bipush (10), 2)) (by decide : _ = (10 : Int32))) ?_
          rcases ite_some h with ⟨c8, h⟩ | ⟨c8, h⟩
          · refine ai (r_icmp_eq_t (pc := 52) (tgt := 67) (by decide +kernel : decode k_R_cut.2.1 52 = .ok (.if_icmp .eq (15), 3)) (by decide) c8) ?_
            exact (ai (r_sub [1, 2] rfl) (R_cut_67_run (fun _ _ _ _ q1 q3 => ih q1 q3) hL h))
          · refine ai (r_icmp_eq_f (pc := 52) 67 (by decide +kernel : decode k_R_cut.2.1 52 = .ok (.if_icmp .eq (15), 3)) (by decide) c8) ?_
            refine ai (r_iload_n (pc := 55) (k := 0) (by decide +kernel : decode k_R_cut.2.1 55 = .ok (.iload_n 2, 1)) rfl rfl) ?_
            refine ai (r_bipush (pc := 56) (by decide +kernel : decode k_R_cut.2.1 56 = .ok (.bipush (13), 2)) (by decide : _ = (13 : Int32))) ?_
            rcases ite_some h with ⟨c9, h⟩ | ⟨c9, h⟩
            · refine ai (r_icmp_eq_t (pc := 58) (tgt := 67) (by decide +kernel : decode k_R_cut.2.1 58 = .ok (.if_icmp .eq (9), 3)) (by decide) c9) ?_
              exact (ai (r_sub [1, 2] rfl) (R_cut_67_run (fun _ _ _ _ q1 q3 => ih q1 q3) hL h))
            · refine ai (r_icmp_eq_f (pc := 58) 67 (by decide +kernel : decode k_R_cut.2.1 58 = .ok (.if_icmp .eq (9), 3)) (by decide) c9) ?_
              refine ai (r_iload_n (pc := 61) (k := 0) (by decide +kernel : decode k_R_cut.2.1 61 = .ok (.iload_n 2, 1)) rfl rfl) ?_
              refine ai (r_bipush (pc := 62) (by decide +kernel : decode k_R_cut.2.1 62 = .ok (.bipush (32), 2)) (by decide : _ = (32 : Int32))) ?_
              rcases ite_some h with ⟨c10, h⟩ | ⟨c10, h⟩
              · refine ai (r_icmp_ne_f (pc := 64) 73 (by decide +kernel : decode k_R_cut.2.1 64 = .ok (.if_icmp .ne (9), 3)) (by decide) c10) ?_
                exact (ai (r_sub [1, 2] rfl) (R_cut_67_run (fun _ _ _ _ q1 q3 => ih q1 q3) hL h))
              · refine ai (r_icmp_ne_t (pc := 64) (tgt := 73) (by decide +kernel : decode k_R_cut.2.1 64 = .ok (.if_icmp .ne (9), 3)) (by decide) c10) ?_
                refine ai (r_iload_n (pc := 73) (k := 0) (by decide +kernel : decode k_R_cut.2.1 73 = .ok (.iload_n 2, 1)) rfl rfl) ?_
                obtain ⟨r11, hr11, h⟩ := bp_some h
                refine ai (q_callS (pc := 74) (As := [.int r2]) (st := []) (st2 := [.int r11]) rfl rfl (by decide +kernel : decode k_R_cut.2.1 74 = .ok (.invokestatic 303, 3)) lc_12_303 mo_R_isLetter ⟨Nat.le_of_ble_eq_true rfl, Nat.le_of_ble_eq_true rfl⟩ (Nat.le_of_ble_eq_true rfl) (Nat.le_of_ble_eq_true rfl) (R_isLetter_run hr11)) ?_
                rcases ite_some h with ⟨c12, h⟩ | ⟨c12, h⟩
                · refine ai (r_if_eq_t (pc := 77) (tgt := 196) (by decide +kernel : decode k_R_cut.2.1 77 = .ok (.ifCond .eq (119), 3)) (by decide) c12) ?_
                  refine ai (r_iload_n (pc := 196) (k := 0) (by decide +kernel : decode k_R_cut.2.1 196 = .ok (.iload_n 2, 1)) rfl rfl) ?_
                  obtain ⟨r13, hr13, h⟩ := bp_some h
                  refine ai (q_callS (pc := 197) (As := [.int r2]) (st := []) (st2 := [.int r13]) rfl rfl (by decide +kernel : decode k_R_cut.2.1 197 = .ok (.invokestatic 307, 3)) lc_12_307 mo_R_isDigit ⟨Nat.le_of_ble_eq_true rfl, Nat.le_of_ble_eq_true rfl⟩ (Nat.le_of_ble_eq_true rfl) (Nat.le_of_ble_eq_true rfl) (R_isDigit_run hr13)) ?_
                  rcases ite_some h with ⟨c14, h⟩ | ⟨c14, h⟩
                  · refine ai (r_if_eq_t (pc := 200) (tgt := 275) (by decide +kernel : decode k_R_cut.2.1 200 = .ok (.ifCond .eq (75), 3)) (by decide) c14) ?_
                    refine ai (r_iload_n (pc := 275) (k := 2) (by decide +kernel : decode k_R_cut.2.1 275 = .ok (.iload_n 1, 1)) rfl rfl) ?_
                    refine ai (p_aload_n (pc := 276) (k := 1) (by decide +kernel : decode k_R_cut.2.1 276 = .ok (.aload_n 0, 1)) rfl rfl) ?_
                    refine ai (r_iload_n (pc := 277) (k := 2) (by decide +kernel : decode k_R_cut.2.1 277 = .ok (.iload_n 1, 1)) rfl rfl) ?_
                    refine ai (r_iload_n (pc := 278) (k := 0) (by decide +kernel : decode k_R_cut.2.1 278 = .ok (.iload_n 2, 1)) rfl rfl) ?_
                    refine ai (p_aload_n (pc := 279) (k := 1) (by decide +kernel : decode k_R_cut.2.1 279 = .ok (.aload_n 0, 1)) rfl rfl) ?_
                    refine ai (r_iload_n (pc := 280) (k := 2) (by decide +kernel : decode k_R_cut.2.1 280 = .ok (.iload_n 1, 1)) rfl rfl) ?_
                    refine ai (r_iconst (pc := 281) (by decide +kernel : decode k_R_cut.2.1 281 = .ok (.iconst 1, 1)) ic_1) ?_
                    refine ai (r_iadd (pc := 282) (by decide +kernel : decode k_R_cut.2.1 282 = .ok (.iadd, 1))) ?_
                    obtain ⟨r15, m16, hr15, h⟩ := bn_some h
                    have q17 := R_at_run hL hr15
                    have c18 := (RC_0 hL).1
                    have hL := q17.2
                    refine ai (q_callV (pc := 283) (As := [.int (x1 + 1)]) (st := [.int r2, .int x1, .ref 0, .int x1]) (st2 := [.int r15, .int r2, .int x1, .ref 0, .int x1]) (b := 0) rfl rfl (by decide +kernel : decode k_R_cut.2.1 283 = .ok (.invokevirtual 295, 3)) lc_12_295 mo_R_at ⟨Nat.le_of_ble_eq_true rfl, Nat.le_of_ble_eq_true rfl⟩ (Nat.le_of_ble_eq_true rfl) (Nat.le_of_ble_eq_true rfl) c18 q17.1) ?_
                    obtain ⟨r19, m20, hr19, h⟩ := bn_some h
                    have q21 := R_sign_run hL hr19
                    have c22 := (RC_0 hL).1
                    have hL := q21.2
                    refine ai (q_callV (pc := 286) (As := [.int x1, .int r2, .int r15]) (st := [.int x1]) (st2 := [.int r19, .int x1]) (b := 0) rfl rfl (by decide +kernel : decode k_R_cut.2.1 286 = .ok (.invokevirtual 310, 3)) lc_12_310 mo_R_sign ⟨Nat.le_of_ble_eq_true rfl, Nat.le_of_ble_eq_true rfl⟩ (Nat.le_of_ble_eq_true rfl) (Nat.le_of_ble_eq_true rfl) c22 q21.1) ?_
                    refine ai (r_iadd (pc := 289) (by decide +kernel : decode k_R_cut.2.1 289 = .ok (.iadd, 1))) ?_
                    obtain ⟨v23, hv23, h⟩ := vb_some h
                    refine ai (e_istore_n (pc := 290) hv23 (by decide +kernel : decode k_R_cut.2.1 290 = .ok (.istore_n 1, 1)) rfl (by decide) rfl) ?_
                    exact (ai (r_sub [2, 0] rfl) (R_cut_291_run (fun _ _ _ _ q1 q3 => ih q1 q3) hL h))
                  · refine ai (r_if_eq_f (pc := 200) 275 (by decide +kernel : decode k_R_cut.2.1 200 = .ok (.ifCond .eq (75), 3)) (by decide) c14) ?_
                    refine ai (r_iconst (pc := 203) (by decide +kernel : decode k_R_cut.2.1 203 = .ok (.iconst 0, 1)) ic_0) ?_
                    refine ai (e_istore_n (pc := 204) rfl (by decide +kernel : decode k_R_cut.2.1 204 = .ok (.istore_n 3, 1)) rfl (by decide) rfl) ?_
                    refine ai (r_iconst (pc := 205) (by decide +kernel : decode k_R_cut.2.1 205 = .ok (.iconst 0, 1)) ic_0) ?_
                    refine ai (e_istore (pc := 206) rfl (by decide +kernel : decode k_R_cut.2.1 206 = .ok (.istore 4, 2)) (by decide) rfl) ?_
                    exact (ai (r_sub [3, 4, 1, 0] rfl) (R_cut_208_run (fun _ _ _ _ q1 q3 => ih q1 q3) hL h))
                · refine ai (r_if_eq_f (pc := 77) 196 (by decide +kernel : decode k_R_cut.2.1 77 = .ok (.ifCond .eq (119), 3)) (by decide) c12) ?_
                  refine ai (r_iconst (pc := 80) (by decide +kernel : decode k_R_cut.2.1 80 = .ok (.iconst 0, 1)) ic_0) ?_
                  refine ai (e_istore_n (pc := 81) rfl (by decide +kernel : decode k_R_cut.2.1 81 = .ok (.istore_n 3, 1)) rfl (by decide) rfl) ?_
                  refine ai (r_lconst (pc := 82) (x := 0) (by decide +kernel : decode k_R_cut.2.1 82 = .ok (.lconst 0, 1)) (by decide)) ?_
                  refine ai (e_lstore (pc := 83) rfl (by decide +kernel : decode k_R_cut.2.1 83 = .ok (.lstore 4, 2)) (by decide) rfl) ?_
                  exact (ai (r_sub [3, 4, 1, 0] rfl) (R_cut_85_run (fun _ _ _ _ q1 q3 => ih q1 q3) hL h))
      · refine ai (r_icmp_lt_f (pc := 28) 43 (by decide +kernel : decode k_R_cut.2.1 28 = .ok (.if_icmp .lt (15), 3)) (by decide) c6) ?_
        exact (ai (r_sub [1] rfl) (R_cut_31_run hL h))
set_option maxRecDepth 100000 in
set_option maxHeartbeats 4000000 in
theorem R_cut_run {m m' : Mem} {r : Unit} (hL : RL m) (h : R_cut m = some (r, m')) : Run k_R_cut 0 [(0, .ref 0)] [] m none m' ∧ RL m' := by
  unfold R_cut at h
  refine ai (p_aload_n (pc := 0) (k := 0) (by decide +kernel : decode k_R_cut.2.1 0 = .ok (.aload_n 0, 1)) rfl rfl) ?_
  refine ai (r_iconst (pc := 1) (by decide +kernel : decode k_R_cut.2.1 1 = .ok (.iconst 0, 1)) ic_0) ?_
  have c1 := (RC_0 hL).1
  obtain ⟨m2, hm2, h⟩ := vb_some h
  have hL : RL m2 := by rw [hm2]; exact hL
  refine ai (p_putI (pc := 2) hm2 (by decide +kernel : decode k_R_cut.2.1 2 = .ok (.putfield 292, 3)) lp_12_292 c1) ?_
  refine ai (r_iconst (pc := 5) (by decide +kernel : decode k_R_cut.2.1 5 = .ok (.iconst 0, 1)) ic_0) ?_
  refine ai (e_istore_n (pc := 6) rfl (by decide +kernel : decode k_R_cut.2.1 6 = .ok (.istore_n 1, 1)) rfl (by decide) rfl) ?_
  exact (ai (r_sub [1, 0] rfl) (R_cut_7_run hL h))
set_option maxRecDepth 100000 in
set_option maxHeartbeats 4000000 in
theorem R_fail_run {x1 : Int32} {m m' : Mem} {r : Unit} (hL : RL m) (h : R_fail x1 m = some (r, m')) : Run k_R_fail 0 [(0, .ref 0), (1, .int x1)] [] m none m' ∧ RL m' := by
  unfold R_fail at h
  refine ai (p_aload_n (pc := 0) (k := 0) (by decide +kernel : decode k_R_fail.2.1 0 = .ok (.aload_n 0, 1)) rfl rfl) ?_
  refine ai (r_getI (pc := 1) (by decide +kernel : decode k_R_fail.2.1 1 = .ok (.getfield 314, 3)) lg_12_314 (by decide) (RC_0 hL).1) ?_
  rcases ite_some h with ⟨c1, h⟩ | ⟨c1, h⟩
  · refine ai (r_if_le_t (pc := 4) (tgt := 8) (by decide +kernel : decode k_R_fail.2.1 4 = .ok (.ifCond .le (4), 3)) (by decide) c1) ?_
    refine ai (p_aload_n (pc := 8) (k := 0) (by decide +kernel : decode k_R_fail.2.1 8 = .ok (.aload_n 0, 1)) rfl rfl) ?_
    refine ai (r_iload_n (pc := 9) (k := 1) (by decide +kernel : decode k_R_fail.2.1 9 = .ok (.iload_n 1, 1)) rfl rfl) ?_
    have c2 := (RC_0 hL).1
    obtain ⟨m3, hm3, h⟩ := vb_some h
    have hL : RL m3 := by rw [hm3]; exact hL
    refine ai (p_putI (pc := 10) hm3 (by decide +kernel : decode k_R_fail.2.1 10 = .ok (.putfield 314, 3)) lp_12_314 c2) ?_
    refine ai (p_aload_n (pc := 13) (k := 0) (by decide +kernel : decode k_R_fail.2.1 13 = .ok (.aload_n 0, 1)) rfl rfl) ?_
    refine ai (p_aload_n (pc := 14) (k := 0) (by decide +kernel : decode k_R_fail.2.1 14 = .ok (.aload_n 0, 1)) rfl rfl) ?_
    refine ai (p_getr (pc := 15) (RR_1542_0 hL) (by decide +kernel : decode k_R_fail.2.1 15 = .ok (.getfield 24, 3)) lg_12_24 (RC_0 hL).1) ?_
    refine ai (p_aload_n (pc := 18) (k := 0) (by decide +kernel : decode k_R_fail.2.1 18 = .ok (.aload_n 0, 1)) rfl rfl) ?_
    refine ai (r_getI (pc := 19) (by decide +kernel : decode k_R_fail.2.1 19 = .ok (.getfield 317, 3)) lg_12_317 (by decide) (RC_0 hL).1) ?_
    obtain ⟨g4, h⟩ := gd_some h
    refine ai (p_iald (pc := 22) (by decide +kernel : decode k_R_fail.2.1 22 = .ok (.iaload, 1)) (RC_4 hL).1 (RC_4 hL).2 g4) ?_
    have c5 := (RC_0 hL).1
    obtain ⟨m6, hm6, h⟩ := vb_some h
    have hL : RL m6 := by rw [hm6]; exact hL
    refine ai (p_putI (pc := 23) hm6 (by decide +kernel : decode k_R_fail.2.1 23 = .ok (.putfield 320, 3)) lp_12_320 c5) ?_
    cases h
    exact ⟨r_vret rfl (by decide +kernel : decode k_R_fail.2.1 26 = .ok (.return_, 1)), hL⟩
  · refine ai (r_if_le_f (pc := 4) 8 (by decide +kernel : decode k_R_fail.2.1 4 = .ok (.ifCond .le (4), 3)) (by decide) c1) ?_
    cases h
    exact ⟨r_vret rfl (by decide +kernel : decode k_R_fail.2.1 7 = .ok (.return_, 1)), hL⟩
set_option maxRecDepth 100000 in
set_option maxHeartbeats 4000000 in
theorem R_next_run {m m' : Mem} {r : Unit} (hL : RL m) (h : R_next m = some (r, m')) : Run k_R_next 0 [(0, .ref 0)] [] m none m' ∧ RL m' := by
  unfold R_next at h
  refine ai (p_aload_n (pc := 0) (k := 0) (by decide +kernel : decode k_R_next.2.1 0 = .ok (.aload_n 0, 1)) rfl rfl) ?_
  refine ai (r_getI (pc := 1) (by decide +kernel : decode k_R_next.2.1 1 = .ok (.getfield 317, 3)) lg_12_317 (by decide) (RC_0 hL).1) ?_
  refine ai (r_sipush (pc := 4) (by decide +kernel : decode k_R_next.2.1 4 = .ok (.sipush (500), 3)) (by decide : _ = (500 : Int32))) ?_
  rcases ite_some h with ⟨c1, h⟩ | ⟨c1, h⟩
  · refine ai (r_icmp_ne_f (pc := 7) 18 (by decide +kernel : decode k_R_next.2.1 7 = .ok (.if_icmp .ne (11), 3)) (by decide) c1) ?_
    refine ai (p_aload_n (pc := 10) (k := 0) (by decide +kernel : decode k_R_next.2.1 10 = .ok (.aload_n 0, 1)) rfl rfl) ?_
    refine ai (r_iconst (pc := 11) (by decide +kernel : decode k_R_next.2.1 11 = .ok (.iconst 2, 1)) ic_2) ?_
    obtain ⟨r2, m3, hr2, h⟩ := bn_some h
    have q4 := R_fail_run hL hr2
    have c5 := (RC_0 hL).1
    have hL := q4.2
    refine ai (q_callV (pc := 12) (As := [.int 2]) (st := []) (st2 := []) (b := 0) rfl rfl (by decide +kernel : decode k_R_next.2.1 12 = .ok (.invokevirtual 329, 3)) lc_12_329 mo_R_fail ⟨Nat.le_of_ble_eq_true rfl, Nat.le_of_ble_eq_true rfl⟩ (Nat.le_of_ble_eq_true rfl) (Nat.le_of_ble_eq_true rfl) c5 q4.1) ?_
    refine ai (r_goto (pc := 15) (tgt := 28) (by decide +kernel : decode k_R_next.2.1 15 = .ok (.goto (13), 3)) (by decide)) ?_
    cases h
    exact ⟨r_vret rfl (by decide +kernel : decode k_R_next.2.1 28 = .ok (.return_, 1)), hL⟩
  · refine ai (r_icmp_ne_t (pc := 7) (tgt := 18) (by decide +kernel : decode k_R_next.2.1 7 = .ok (.if_icmp .ne (11), 3)) (by decide) c1) ?_
    refine ai (p_aload_n (pc := 18) (k := 0) (by decide +kernel : decode k_R_next.2.1 18 = .ok (.aload_n 0, 1)) rfl rfl) ?_
    refine ai (r_dup (pc := 19) (by decide +kernel : decode k_R_next.2.1 19 = .ok (.dup, 1)) (rfl)) ?_
    refine ai (r_getI (pc := 20) (by decide +kernel : decode k_R_next.2.1 20 = .ok (.getfield 317, 3)) lg_12_317 (by decide) (RC_0 hL).1) ?_
    refine ai (r_iconst (pc := 23) (by decide +kernel : decode k_R_next.2.1 23 = .ok (.iconst 1, 1)) ic_1) ?_
    refine ai (r_iadd (pc := 24) (by decide +kernel : decode k_R_next.2.1 24 = .ok (.iadd, 1))) ?_
    have c6 := (RC_0 hL).1
    obtain ⟨m7, hm7, h⟩ := vb_some h
    have hL : RL m7 := by rw [hm7]; exact hL
    refine ai (p_putI (pc := 25) hm7 (by decide +kernel : decode k_R_next.2.1 25 = .ok (.putfield 317, 3)) lp_12_317 c6) ?_
    cases h
    exact ⟨r_vret rfl (by decide +kernel : decode k_R_next.2.1 28 = .ok (.return_, 1)), hL⟩
set_option maxRecDepth 100000 in
set_option maxHeartbeats 4000000 in
theorem R_is_run {x1 : Int32} {m m' : Mem} {r : Int32} (hL : RL m) (h : R_is x1 m = some (r, m')) : Run k_R_is 0 [(0, .ref 0), (1, .int x1)] [] m (some (.int r)) m' ∧ RL m' := by
  unfold R_is at h
  refine ai (p_aload_n (pc := 0) (k := 0) (by decide +kernel : decode k_R_is.2.1 0 = .ok (.aload_n 0, 1)) rfl rfl) ?_
  refine ai (r_getI (pc := 1) (by decide +kernel : decode k_R_is.2.1 1 = .ok (.getfield 314, 3)) lg_12_314 (by decide) (RC_0 hL).1) ?_
  rcases ite_some h with ⟨c1, h⟩ | ⟨c1, h⟩
  · refine ai (r_if_ne_f (pc := 4) 24 (by decide +kernel : decode k_R_is.2.1 4 = .ok (.ifCond .ne (20), 3)) (by decide) c1) ?_
    refine ai (p_aload_n (pc := 7) (k := 0) (by decide +kernel : decode k_R_is.2.1 7 = .ok (.aload_n 0, 1)) rfl rfl) ?_
    refine ai (p_getr (pc := 8) (RR_1541_0 hL) (by decide +kernel : decode k_R_is.2.1 8 = .ok (.getfield 20, 3)) lg_12_20 (RC_0 hL).1) ?_
    refine ai (p_aload_n (pc := 11) (k := 0) (by decide +kernel : decode k_R_is.2.1 11 = .ok (.aload_n 0, 1)) rfl rfl) ?_
    refine ai (r_getI (pc := 12) (by decide +kernel : decode k_R_is.2.1 12 = .ok (.getfield 317, 3)) lg_12_317 (by decide) (RC_0 hL).1) ?_
    obtain ⟨g2, h⟩ := gd_some h
    refine ai (p_iald (pc := 15) (by decide +kernel : decode k_R_is.2.1 15 = .ok (.iaload, 1)) (RC_3 hL).1 (RC_3 hL).2 g2) ?_
    refine ai (r_iload_n (pc := 16) (k := 1) (by decide +kernel : decode k_R_is.2.1 16 = .ok (.iload_n 1, 1)) rfl rfl) ?_
    rcases ite_some h with ⟨c3, h⟩ | ⟨c3, h⟩
    · refine ai (r_icmp_ne_f (pc := 17) 24 (by decide +kernel : decode k_R_is.2.1 17 = .ok (.if_icmp .ne (7), 3)) (by decide) c3) ?_
      refine ai (r_iconst (pc := 20) (by decide +kernel : decode k_R_is.2.1 20 = .ok (.iconst 1, 1)) ic_1) ?_
      refine ai (r_goto (pc := 21) (tgt := 25) (by decide +kernel : decode k_R_is.2.1 21 = .ok (.goto (4), 3)) (by decide)) ?_
      cases h
      exact ⟨r_zret (by decide) rfl (by decide +kernel : decode k_R_is.2.1 25 = .ok (.ireturn, 1)), hL⟩
    · refine ai (r_icmp_ne_t (pc := 17) (tgt := 24) (by decide +kernel : decode k_R_is.2.1 17 = .ok (.if_icmp .ne (7), 3)) (by decide) c3) ?_
      refine ai (r_iconst (pc := 24) (by decide +kernel : decode k_R_is.2.1 24 = .ok (.iconst 0, 1)) ic_0) ?_
      cases h
      exact ⟨r_zret (by decide) rfl (by decide +kernel : decode k_R_is.2.1 25 = .ok (.ireturn, 1)), hL⟩
  · refine ai (r_if_ne_t (pc := 4) (tgt := 24) (by decide +kernel : decode k_R_is.2.1 4 = .ok (.ifCond .ne (20), 3)) (by decide) c1) ?_
    refine ai (r_iconst (pc := 24) (by decide +kernel : decode k_R_is.2.1 24 = .ok (.iconst 0, 1)) ic_0) ?_
    cases h
    exact ⟨r_zret (by decide) rfl (by decide +kernel : decode k_R_is.2.1 25 = .ok (.ireturn, 1)), hL⟩
set_option maxRecDepth 100000 in
set_option maxHeartbeats 4000000 in
theorem R_must_run {x1 : Int32} {m m' : Mem} {r : Unit} (hL : RL m) (h : R_must x1 m = some (r, m')) : Run k_R_must 0 [(0, .ref 0), (1, .int x1)] [] m none m' ∧ RL m' := by
  unfold R_must at h
  refine ai (p_aload_n (pc := 0) (k := 0) (by decide +kernel : decode k_R_must.2.1 0 = .ok (.aload_n 0, 1)) rfl rfl) ?_
  refine ai (r_iload_n (pc := 1) (k := 1) (by decide +kernel : decode k_R_must.2.1 1 = .ok (.iload_n 1, 1)) rfl rfl) ?_
  obtain ⟨r1, m2, hr1, h⟩ := bn_some h
  have q3 := R_is_run hL hr1
  have c4 := (RC_0 hL).1
  have hL := q3.2
  refine ai (q_callV (pc := 2) (As := [.int x1]) (st := []) (st2 := [.int r1]) (b := 0) rfl rfl (by decide +kernel : decode k_R_must.2.1 2 = .ok (.invokevirtual 332, 3)) lc_12_332 mo_R_is ⟨Nat.le_of_ble_eq_true rfl, Nat.le_of_ble_eq_true rfl⟩ (Nat.le_of_ble_eq_true rfl) (Nat.le_of_ble_eq_true rfl) c4 q3.1) ?_
  rcases ite_some h with ⟨c5, h⟩ | ⟨c5, h⟩
  · refine ai (r_if_eq_t (pc := 5) (tgt := 15) (by decide +kernel : decode k_R_must.2.1 5 = .ok (.ifCond .eq (10), 3)) (by decide) c5) ?_
    refine ai (p_aload_n (pc := 15) (k := 0) (by decide +kernel : decode k_R_must.2.1 15 = .ok (.aload_n 0, 1)) rfl rfl) ?_
    refine ai (r_iconst (pc := 16) (by decide +kernel : decode k_R_must.2.1 16 = .ok (.iconst 1, 1)) ic_1) ?_
    obtain ⟨r6, m7, hr6, h⟩ := bn_some h
    have q8 := R_fail_run hL hr6
    have c9 := (RC_0 hL).1
    have hL := q8.2
    refine ai (q_callV (pc := 17) (As := [.int 1]) (st := []) (st2 := []) (b := 0) rfl rfl (by decide +kernel : decode k_R_must.2.1 17 = .ok (.invokevirtual 329, 3)) lc_12_329 mo_R_fail ⟨Nat.le_of_ble_eq_true rfl, Nat.le_of_ble_eq_true rfl⟩ (Nat.le_of_ble_eq_true rfl) (Nat.le_of_ble_eq_true rfl) c9 q8.1) ?_
    cases h
    exact ⟨r_vret rfl (by decide +kernel : decode k_R_must.2.1 20 = .ok (.return_, 1)), hL⟩
  · refine ai (r_if_eq_f (pc := 5) 15 (by decide +kernel : decode k_R_must.2.1 5 = .ok (.ifCond .eq (10), 3)) (by decide) c5) ?_
    refine ai (p_aload_n (pc := 8) (k := 0) (by decide +kernel : decode k_R_must.2.1 8 = .ok (.aload_n 0, 1)) rfl rfl) ?_
    obtain ⟨r10, m11, hr10, h⟩ := bn_some h
    have q12 := R_next_run hL hr10
    have c13 := (RC_0 hL).1
    have hL := q12.2
    refine ai (q_callV (pc := 9) (As := []) (st := []) (st2 := []) (b := 0) rfl rfl (by decide +kernel : decode k_R_must.2.1 9 = .ok (.invokevirtual 335, 3)) lc_12_335 mo_R_next ⟨Nat.le_of_ble_eq_true rfl, Nat.le_of_ble_eq_true rfl⟩ (Nat.le_of_ble_eq_true rfl) (Nat.le_of_ble_eq_true rfl) c13 q12.1) ?_
    refine ai (r_goto (pc := 12) (tgt := 20) (by decide +kernel : decode k_R_must.2.1 12 = .ok (.goto (8), 3)) (by decide)) ?_
    cases h
    exact ⟨r_vret rfl (by decide +kernel : decode k_R_must.2.1 20 = .ok (.return_, 1)), hL⟩
set_option maxRecDepth 100000 in
set_option maxHeartbeats 4000000 in
theorem R_name_75_run {x1 : Int32} {m m' : Mem} {r : Int32} (hL : RL m) (h : R_name_75 x1 m = some (r, m')) : Run k_R_name 75 [(0, .ref 0), (1, .int x1)] [] m (some (.int r)) m' ∧ RL m' := by
  unfold R_name_75 at h
  refine ai (p_aload_n (pc := 75) (k := 0) (by decide +kernel : decode k_R_name.2.1 75 = .ok (.aload_n 0, 1)) rfl rfl) ?_
  refine ai (p_getr (pc := 76) (RR_1586_0 hL) (by decide +kernel : decode k_R_name.2.1 76 = .ok (.getfield 122, 3)) lg_12_122 (RC_0 hL).1) ?_
  refine ai (p_aload_n (pc := 79) (k := 0) (by decide +kernel : decode k_R_name.2.1 79 = .ok (.aload_n 0, 1)) rfl rfl) ?_
  refine ai (r_getI (pc := 80) (by decide +kernel : decode k_R_name.2.1 80 = .ok (.getfield 362, 3)) lg_12_362 (by decide) (RC_0 hL).1) ?_
  refine ai (p_aload_n (pc := 83) (k := 0) (by decide +kernel : decode k_R_name.2.1 83 = .ok (.aload_n 0, 1)) rfl rfl) ?_
  refine ai (p_getr (pc := 84) (RR_1544_0 hL) (by decide +kernel : decode k_R_name.2.1 84 = .ok (.getfield 30, 3)) lg_12_30 (RC_0 hL).1) ?_
  refine ai (r_iload_n (pc := 87) (k := 1) (by decide +kernel : decode k_R_name.2.1 87 = .ok (.iload_n 1, 1)) rfl rfl) ?_
  obtain ⟨g1, h⟩ := gd_some h
  refine ai (p_lald (pc := 88) (by decide +kernel : decode k_R_name.2.1 88 = .ok (.laload, 1)) (RC_6 hL).1 (RC_6 hL).2 g1) ?_
  obtain ⟨g2, h⟩ := gd_some h
  have c3 := (RC_35 hL).1
  have c4 := (RC_35 hL).2
  obtain ⟨m5, hm5, h⟩ := vb_some h
  have hL : RL m5 := by rw [hm5]; exact hL
  refine ai (p_last (pc := 89) hm5 (by decide +kernel : decode k_R_name.2.1 89 = .ok (.lastore, 1)) c3 c4 g2) ?_
  refine ai (p_aload_n (pc := 90) (k := 0) (by decide +kernel : decode k_R_name.2.1 90 = .ok (.aload_n 0, 1)) rfl rfl) ?_
  refine ai (r_dup (pc := 91) (by decide +kernel : decode k_R_name.2.1 91 = .ok (.dup, 1)) (rfl)) ?_
  refine ai (r_getI (pc := 92) (by decide +kernel : decode k_R_name.2.1 92 = .ok (.getfield 362, 3)) lg_12_362 (by decide) (RC_0 hL).1) ?_
  refine ai (r_iconst (pc := 95) (by decide +kernel : decode k_R_name.2.1 95 = .ok (.iconst 1, 1)) ic_1) ?_
  refine ai (r_iadd (pc := 96) (by decide +kernel : decode k_R_name.2.1 96 = .ok (.iadd, 1))) ?_
  have c6 := (RC_0 hL).1
  obtain ⟨m7, hm7, h⟩ := vb_some h
  have hL : RL m7 := by rw [hm7]; exact hL
  refine ai (p_putI (pc := 97) hm7 (by decide +kernel : decode k_R_name.2.1 97 = .ok (.putfield 362, 3)) lp_12_362 c6) ?_
  refine ai (p_aload_n (pc := 100) (k := 0) (by decide +kernel : decode k_R_name.2.1 100 = .ok (.aload_n 0, 1)) rfl rfl) ?_
  refine ai (r_getI (pc := 101) (by decide +kernel : decode k_R_name.2.1 101 = .ok (.getfield 362, 3)) lg_12_362 (by decide) (RC_0 hL).1) ?_
  refine ai (r_iconst (pc := 104) (by decide +kernel : decode k_R_name.2.1 104 = .ok (.iconst 1, 1)) ic_1) ?_
  refine ai (r_isub (pc := 105) (by decide +kernel : decode k_R_name.2.1 105 = .ok (.isub, 1))) ?_
  cases h
  exact ⟨r_iret rfl (by decide +kernel : decode k_R_name.2.1 106 = .ok (.ireturn, 1)), hL⟩
set_option maxRecDepth 100000 in
set_option maxHeartbeats 4000000 in
theorem R_name_53_run {x1 : Int32} {m m' : Mem} {r : Int32} (hL : RL m) (h : R_name_53 x1 m = some (r, m')) : Run k_R_name 53 [(0, .ref 0), (1, .int x1)] [] m (some (.int r)) m' ∧ RL m' := by
  unfold R_name_53 at h
  refine ai (p_aload_n (pc := 53) (k := 0) (by decide +kernel : decode k_R_name.2.1 53 = .ok (.aload_n 0, 1)) rfl rfl) ?_
  refine ai (r_getI (pc := 54) (by decide +kernel : decode k_R_name.2.1 54 = .ok (.getfield 362, 3)) lg_12_362 (by decide) (RC_0 hL).1) ?_
  refine ai (r_bipush (pc := 57) (by decide +kernel : decode k_R_name.2.1 57 = .ok (.bipush (60), 2)) (by decide : _ = (60 : Int32))) ?_
  rcases ite_some h with ⟨c1, h⟩ | ⟨c1, h⟩
  · refine ai (r_icmp_ne_f (pc := 59) 75 (by decide +kernel : decode k_R_name.2.1 59 = .ok (.if_icmp .ne (16), 3)) (by decide) c1) ?_
    refine ai (p_aload_n (pc := 62) (k := 0) (by decide +kernel : decode k_R_name.2.1 62 = .ok (.aload_n 0, 1)) rfl rfl) ?_
    refine ai (r_getI (pc := 63) (by decide +kernel : decode k_R_name.2.1 63 = .ok (.getfield 365, 3)) lg_12_365 (by decide) (RC_0 hL).1) ?_
    refine ai (r_iconst (pc := 66) (by decide +kernel : decode k_R_name.2.1 66 = .ok (.iconst (-1), 1)) ic_m1) ?_
    rcases ite_some h with ⟨c2, h⟩ | ⟨c2, h⟩
    · refine ai (r_icmp_ne_f (pc := 67) 75 (by decide +kernel : decode k_R_name.2.1 67 = .ok (.if_icmp .ne (8), 3)) (by decide) c2) ?_
      refine ai (p_aload_n (pc := 70) (k := 0) (by decide +kernel : decode k_R_name.2.1 70 = .ok (.aload_n 0, 1)) rfl rfl) ?_
      refine ai (r_iload_n (pc := 71) (k := 1) (by decide +kernel : decode k_R_name.2.1 71 = .ok (.iload_n 1, 1)) rfl rfl) ?_
      have c3 := (RC_0 hL).1
      obtain ⟨m4, hm4, h⟩ := vb_some h
      have hL : RL m4 := by rw [hm4]; exact hL
      refine ai (p_putI (pc := 72) hm4 (by decide +kernel : decode k_R_name.2.1 72 = .ok (.putfield 365, 3)) lp_12_365 c3) ?_
      exact (R_name_75_run hL h)
    · refine ai (r_icmp_ne_t (pc := 67) (tgt := 75) (by decide +kernel : decode k_R_name.2.1 67 = .ok (.if_icmp .ne (8), 3)) (by decide) c2) ?_
      exact (R_name_75_run hL h)
  · refine ai (r_icmp_ne_t (pc := 59) (tgt := 75) (by decide +kernel : decode k_R_name.2.1 59 = .ok (.if_icmp .ne (16), 3)) (by decide) c1) ?_
    exact (R_name_75_run hL h)
set_option maxRecDepth 100000 in
set_option maxHeartbeats 4000000 in
theorem R_name_21_run {n : Nat} {x1 : Int32} {x2 : Int32} {m m' : Mem} {r : Int32} (hL : RL m) (h : R_name_21 n x1 x2 m = some (r, m')) : Run k_R_name 21 [(0, .ref 0), (1, .int x1), (2, .int x2)] [] m (some (.int r)) m' ∧ RL m' := by
  induction n generalizing x1 x2 m r m' with
  | zero => exact absurd h (by simp [R_name_21])
  | succ n ih =>
    rw [R_name_21.eq_2] at h
    refine ai (r_iload_n (pc := 21) (k := 2) (by decide +kernel : decode k_R_name.2.1 21 = .ok (.iload_n 2, 1)) rfl rfl) ?_
    refine ai (p_aload_n (pc := 22) (k := 0) (by decide +kernel : decode k_R_name.2.1 22 = .ok (.aload_n 0, 1)) rfl rfl) ?_
    refine ai (r_getI (pc := 23) (by decide +kernel : decode k_R_name.2.1 23 = .ok (.getfield 362, 3)) lg_12_362 (by decide) (RC_0 hL).1) ?_
    rcases ite_some h with ⟨c1, h⟩ | ⟨c1, h⟩
    · refine ai (r_icmp_ge_t (pc := 26) (tgt := 53) (by decide +kernel : decode k_R_name.2.1 26 = .ok (.if_icmp .ge (27), 3)) (by decide) c1) ?_
      exact (ai (r_sub [0, 1] rfl) (R_name_53_run hL h))
    · refine ai (r_icmp_ge_f (pc := 26) 53 (by decide +kernel : decode k_R_name.2.1 26 = .ok (.if_icmp .ge (27), 3)) (by decide) c1) ?_
      refine ai (p_aload_n (pc := 29) (k := 0) (by decide +kernel : decode k_R_name.2.1 29 = .ok (.aload_n 0, 1)) rfl rfl) ?_
      refine ai (p_getr (pc := 30) (RR_1586_0 hL) (by decide +kernel : decode k_R_name.2.1 30 = .ok (.getfield 122, 3)) lg_12_122 (RC_0 hL).1) ?_
      refine ai (r_iload_n (pc := 33) (k := 2) (by decide +kernel : decode k_R_name.2.1 33 = .ok (.iload_n 2, 1)) rfl rfl) ?_
      obtain ⟨g2, h⟩ := gd_some h
      refine ai (p_lald (pc := 34) (by decide +kernel : decode k_R_name.2.1 34 = .ok (.laload, 1)) (RC_35 hL).1 (RC_35 hL).2 g2) ?_
      refine ai (p_aload_n (pc := 35) (k := 0) (by decide +kernel : decode k_R_name.2.1 35 = .ok (.aload_n 0, 1)) rfl rfl) ?_
      refine ai (p_getr (pc := 36) (RR_1544_0 hL) (by decide +kernel : decode k_R_name.2.1 36 = .ok (.getfield 30, 3)) lg_12_30 (RC_0 hL).1) ?_
      refine ai (r_iload_n (pc := 39) (k := 1) (by decide +kernel : decode k_R_name.2.1 39 = .ok (.iload_n 1, 1)) rfl rfl) ?_
      obtain ⟨g3, h⟩ := gd_some h
      refine ai (p_lald (pc := 40) (by decide +kernel : decode k_R_name.2.1 40 = .ok (.laload, 1)) (RC_6 hL).1 (RC_6 hL).2 g3) ?_
      refine ai (r_lcmp (pc := 41) (by decide +kernel : decode k_R_name.2.1 41 = .ok (.lcmp, 1))) ?_
      rcases ite_some h with ⟨c4, h⟩ | ⟨c4, h⟩
      · refine ai (r_if_ne_f (pc := 42) 47 (by decide +kernel : decode k_R_name.2.1 42 = .ok (.ifCond .ne (5), 3)) (by decide) c4) ?_
        refine ai (r_iload_n (pc := 45) (k := 2) (by decide +kernel : decode k_R_name.2.1 45 = .ok (.iload_n 2, 1)) rfl rfl) ?_
        cases h
        exact ⟨r_iret rfl (by decide +kernel : decode k_R_name.2.1 46 = .ok (.ireturn, 1)), hL⟩
      · refine ai (r_if_ne_t (pc := 42) (tgt := 47) (by decide +kernel : decode k_R_name.2.1 42 = .ok (.ifCond .ne (5), 3)) (by decide) c4) ?_
        obtain ⟨v5, hv5, h⟩ := vb_some h
        refine ai (e_iinc (pc := 47) (k := 2) hv5 ic_1 (by decide +kernel : decode k_R_name.2.1 47 = .ok (.iinc 2 (1), 3)) rfl (by decide) rfl) ?_
        refine ai (r_goto (pc := 50) (tgt := 21) (by decide +kernel : decode k_R_name.2.1 50 = .ok (.goto (-29), 3)) (by decide)) ?_
        exact (ai (r_sub [1, 2, 0] rfl) (ih hL h))
set_option maxRecDepth 100000 in
set_option maxHeartbeats 4000000 in
theorem R_name_run {m m' : Mem} {r : Int32} (hL : RL m) (h : R_name m = some (r, m')) : Run k_R_name 0 [(0, .ref 0)] [] m (some (.int r)) m' ∧ RL m' := by
  unfold R_name at h
  refine ai (p_aload_n (pc := 0) (k := 0) (by decide +kernel : decode k_R_name.2.1 0 = .ok (.aload_n 0, 1)) rfl rfl) ?_
  refine ai (r_getI (pc := 1) (by decide +kernel : decode k_R_name.2.1 1 = .ok (.getfield 317, 3)) lg_12_317 (by decide) (RC_0 hL).1) ?_
  obtain ⟨v1, hv1, h⟩ := vb_some h
  refine ai (e_istore_n (pc := 4) hv1 (by decide +kernel : decode k_R_name.2.1 4 = .ok (.istore_n 1, 1)) rfl (by decide) rfl) ?_
  refine ai (p_aload_n (pc := 5) (k := 1) (by decide +kernel : decode k_R_name.2.1 5 = .ok (.aload_n 0, 1)) rfl rfl) ?_
  refine ai (r_iconst (pc := 6) (by decide +kernel : decode k_R_name.2.1 6 = .ok (.iconst 1, 1)) ic_1) ?_
  obtain ⟨r2, m3, hr2, h⟩ := bn_some h
  have q4 := R_must_run hL hr2
  have c5 := (RC_0 hL).1
  have hL := q4.2
  refine ai (q_callV (pc := 7) (As := [.int 1]) (st := []) (st2 := []) (b := 0) rfl rfl (by decide +kernel : decode k_R_name.2.1 7 = .ok (.invokevirtual 382, 3)) lc_12_382 mo_R_must ⟨Nat.le_of_ble_eq_true rfl, Nat.le_of_ble_eq_true rfl⟩ (Nat.le_of_ble_eq_true rfl) (Nat.le_of_ble_eq_true rfl) c5 q4.1) ?_
  refine ai (p_aload_n (pc := 10) (k := 1) (by decide +kernel : decode k_R_name.2.1 10 = .ok (.aload_n 0, 1)) rfl rfl) ?_
  refine ai (r_getI (pc := 11) (by decide +kernel : decode k_R_name.2.1 11 = .ok (.getfield 314, 3)) lg_12_314 (by decide) (RC_0 hL).1) ?_
  rcases ite_some h with ⟨c6, h⟩ | ⟨c6, h⟩
  · refine ai (r_if_le_t (pc := 14) (tgt := 19) (by decide +kernel : decode k_R_name.2.1 14 = .ok (.ifCond .le (5), 3)) (by decide) c6) ?_
    refine ai (r_iconst (pc := 19) (by decide +kernel : decode k_R_name.2.1 19 = .ok (.iconst 0, 1)) ic_0) ?_
    refine ai (e_istore_n (pc := 20) rfl (by decide +kernel : decode k_R_name.2.1 20 = .ok (.istore_n 2, 1)) rfl (by decide) rfl) ?_
    exact (ai (r_sub [2, 1, 0] rfl) (R_name_21_run hL h))
  · refine ai (r_if_le_f (pc := 14) 19 (by decide +kernel : decode k_R_name.2.1 14 = .ok (.ifCond .le (5), 3)) (by decide) c6) ?_
    refine ai (r_iconst (pc := 17) (by decide +kernel : decode k_R_name.2.1 17 = .ok (.iconst 0, 1)) ic_0) ?_
    cases h
    exact ⟨r_iret rfl (by decide +kernel : decode k_R_name.2.1 18 = .ok (.ireturn, 1)), hL⟩
set_option maxRecDepth 100000 in
set_option maxHeartbeats 4000000 in
theorem R_wrong_46_run {x1 : Int32} {x3 : Int32} {m m' : Mem} {r : Unit} (hL : RL m) (h : R_wrong_46 x1 x3 m = some (r, m')) : Run k_R_wrong 46 [(0, .ref 0), (1, .int x1), (3, .int x3)] [] m none m' ∧ RL m' := by
  unfold R_wrong_46 at h
  refine ai (p_aload_n (pc := 46) (k := 0) (by decide +kernel : decode k_R_wrong.2.1 46 = .ok (.aload_n 0, 1)) rfl rfl) ?_
  refine ai (r_iload_n (pc := 47) (k := 1) (by decide +kernel : decode k_R_wrong.2.1 47 = .ok (.iload_n 1, 1)) rfl rfl) ?_
  have c1 := (RC_0 hL).1
  obtain ⟨m2, hm2, h⟩ := vb_some h
  have hL : RL m2 := by rw [hm2]; exact hL
  refine ai (p_putI (pc := 48) hm2 (by decide +kernel : decode k_R_wrong.2.1 48 = .ok (.putfield 323, 3)) lp_12_323 c1) ?_
  refine ai (p_aload_n (pc := 51) (k := 0) (by decide +kernel : decode k_R_wrong.2.1 51 = .ok (.aload_n 0, 1)) rfl rfl) ?_
  refine ai (r_iload_n (pc := 52) (k := 2) (by decide +kernel : decode k_R_wrong.2.1 52 = .ok (.iload_n 3, 1)) rfl rfl) ?_
  have c3 := (RC_0 hL).1
  obtain ⟨m4, hm4, h⟩ := vb_some h
  have hL : RL m4 := by rw [hm4]; exact hL
  refine ai (p_putI (pc := 53) hm4 (by decide +kernel : decode k_R_wrong.2.1 53 = .ok (.putfield 326, 3)) lp_12_326 c3) ?_
  cases h
  exact ⟨r_vret rfl (by decide +kernel : decode k_R_wrong.2.1 56 = .ok (.return_, 1)), hL⟩
set_option maxRecDepth 100000 in
set_option maxHeartbeats 4000000 in
theorem R_wrong_run {x1 : Int32} {x2 : Int32} {m m' : Mem} {r : Unit} (hL : RL m) (h : R_wrong x1 x2 m = some (r, m')) : Run k_R_wrong 0 [(0, .ref 0), (1, .int x1), (2, .int x2)] [] m none m' ∧ RL m' := by
  unfold R_wrong at h
  refine ai (p_aload_n (pc := 0) (k := 0) (by decide +kernel : decode k_R_wrong.2.1 0 = .ok (.aload_n 0, 1)) rfl rfl) ?_
  refine ai (p_getr (pc := 1) (RR_1542_0 hL) (by decide +kernel : decode k_R_wrong.2.1 1 = .ok (.getfield 24, 3)) lg_12_24 (RC_0 hL).1) ?_
  refine ai (r_iload_n (pc := 4) (k := 2) (by decide +kernel : decode k_R_wrong.2.1 4 = .ok (.iload_n 2, 1)) rfl rfl) ?_
  obtain ⟨g1, h⟩ := gd_some h
  refine ai (p_iald (pc := 5) (by decide +kernel : decode k_R_wrong.2.1 5 = .ok (.iaload, 1)) (RC_4 hL).1 (RC_4 hL).2 g1) ?_
  obtain ⟨v2, hv2, h⟩ := vb_some h
  refine ai (e_istore_n (pc := 6) hv2 (by decide +kernel : decode k_R_wrong.2.1 6 = .ok (.istore_n 3, 1)) rfl (by decide) rfl) ?_
  refine ai (p_aload_n (pc := 7) (k := 1) (by decide +kernel : decode k_R_wrong.2.1 7 = .ok (.aload_n 0, 1)) rfl rfl) ?_
  refine ai (r_getI (pc := 8) (by decide +kernel : decode k_R_wrong.2.1 8 = .ok (.getfield 314, 3)) lg_12_314 (by decide) (RC_0 hL).1) ?_
  rcases ite_some h with ⟨c3, h⟩ | ⟨c3, h⟩
  · refine ai (r_if_gt_t (pc := 11) (tgt := 45) (by decide +kernel : decode k_R_wrong.2.1 11 = .ok (.ifCond .gt (34), 3)) (by decide) c3) ?_
    cases h
    exact ⟨r_vret rfl (by decide +kernel : decode k_R_wrong.2.1 45 = .ok (.return_, 1)), hL⟩
  · refine ai (r_if_gt_f (pc := 11) 45 (by decide +kernel : decode k_R_wrong.2.1 11 = .ok (.ifCond .gt (34), 3)) (by decide) c3) ?_
    refine ai (p_aload_n (pc := 14) (k := 1) (by decide +kernel : decode k_R_wrong.2.1 14 = .ok (.aload_n 0, 1)) rfl rfl) ?_
    refine ai (r_getI (pc := 15) (by decide +kernel : decode k_R_wrong.2.1 15 = .ok (.getfield 323, 3)) lg_12_323 (by decide) (RC_0 hL).1) ?_
    rcases ite_some h with ⟨c4, h⟩ | ⟨c4, h⟩
    · refine ai (r_if_eq_t (pc := 18) (tgt := 46) (by decide +kernel : decode k_R_wrong.2.1 18 = .ok (.ifCond .eq (28), 3)) (by decide) c4) ?_
      exact (ai (r_sub [1, 2, 0] rfl) (R_wrong_46_run hL h))
    · refine ai (r_if_eq_f (pc := 18) 46 (by decide +kernel : decode k_R_wrong.2.1 18 = .ok (.ifCond .eq (28), 3)) (by decide) c4) ?_
      refine ai (r_iload_n (pc := 21) (k := 0) (by decide +kernel : decode k_R_wrong.2.1 21 = .ok (.iload_n 3, 1)) rfl rfl) ?_
      refine ai (p_aload_n (pc := 22) (k := 1) (by decide +kernel : decode k_R_wrong.2.1 22 = .ok (.aload_n 0, 1)) rfl rfl) ?_
      refine ai (r_getI (pc := 23) (by decide +kernel : decode k_R_wrong.2.1 23 = .ok (.getfield 326, 3)) lg_12_326 (by decide) (RC_0 hL).1) ?_
      rcases ite_some h with ⟨c5, h⟩ | ⟨c5, h⟩
      · refine ai (r_icmp_gt_t (pc := 26) (tgt := 45) (by decide +kernel : decode k_R_wrong.2.1 26 = .ok (.if_icmp .gt (19), 3)) (by decide) c5) ?_
        cases h
        exact ⟨r_vret rfl (by decide +kernel : decode k_R_wrong.2.1 45 = .ok (.return_, 1)), hL⟩
      · refine ai (r_icmp_gt_f (pc := 26) 45 (by decide +kernel : decode k_R_wrong.2.1 26 = .ok (.if_icmp .gt (19), 3)) (by decide) c5) ?_
        refine ai (r_iload_n (pc := 29) (k := 0) (by decide +kernel : decode k_R_wrong.2.1 29 = .ok (.iload_n 3, 1)) rfl rfl) ?_
        refine ai (p_aload_n (pc := 30) (k := 1) (by decide +kernel : decode k_R_wrong.2.1 30 = .ok (.aload_n 0, 1)) rfl rfl) ?_
        refine ai (r_getI (pc := 31) (by decide +kernel : decode k_R_wrong.2.1 31 = .ok (.getfield 326, 3)) lg_12_326 (by decide) (RC_0 hL).1) ?_
        rcases ite_some h with ⟨c6, h⟩ | ⟨c6, h⟩
        · refine ai (r_icmp_ne_f (pc := 34) 46 (by decide +kernel : decode k_R_wrong.2.1 34 = .ok (.if_icmp .ne (12), 3)) (by decide) c6) ?_
          refine ai (r_iload_n (pc := 37) (k := 2) (by decide +kernel : decode k_R_wrong.2.1 37 = .ok (.iload_n 1, 1)) rfl rfl) ?_
          refine ai (p_aload_n (pc := 38) (k := 1) (by decide +kernel : decode k_R_wrong.2.1 38 = .ok (.aload_n 0, 1)) rfl rfl) ?_
          refine ai (r_getI (pc := 39) (by decide +kernel : decode k_R_wrong.2.1 39 = .ok (.getfield 323, 3)) lg_12_323 (by decide) (RC_0 hL).1) ?_
          rcases ite_some h with ⟨c7, h⟩ | ⟨c7, h⟩
          · refine ai (r_icmp_lt_t (pc := 42) (tgt := 46) (by decide +kernel : decode k_R_wrong.2.1 42 = .ok (.if_icmp .lt (4), 3)) (by decide) c7) ?_
            exact (ai (r_sub [1, 2, 0] rfl) (R_wrong_46_run hL h))
          · refine ai (r_icmp_lt_f (pc := 42) 46 (by decide +kernel : decode k_R_wrong.2.1 42 = .ok (.if_icmp .lt (4), 3)) (by decide) c7) ?_
            cases h
            exact ⟨r_vret rfl (by decide +kernel : decode k_R_wrong.2.1 45 = .ok (.return_, 1)), hL⟩
        · refine ai (r_icmp_ne_t (pc := 34) (tgt := 46) (by decide +kernel : decode k_R_wrong.2.1 34 = .ok (.if_icmp .ne (12), 3)) (by decide) c6) ?_
          exact (ai (r_sub [1, 2, 0] rfl) (R_wrong_46_run hL h))
set_option maxRecDepth 100000 in
set_option maxHeartbeats 4000000 in
theorem R_number_52_run {x3 : Int32} {x4 : Int32} {m m' : Mem} {r : Int32} (hL : RL m) (h : R_number_52 x3 x4 m = some (r, m')) : Run k_R_number 52 [(0, .ref 0), (3, .int x3), (4, .int x4)] [] m (some (.int r)) m' ∧ RL m' := by
  unfold R_number_52 at h
  refine ai (p_aload_n (pc := 52) (k := 0) (by decide +kernel : decode k_R_number.2.1 52 = .ok (.aload_n 0, 1)) rfl rfl) ?_
  refine ai (r_iconst (pc := 53) (by decide +kernel : decode k_R_number.2.1 53 = .ok (.iconst 5, 1)) ic_5) ?_
  refine ai (r_iload_n (pc := 54) (k := 1) (by decide +kernel : decode k_R_number.2.1 54 = .ok (.iload_n 3, 1)) rfl rfl) ?_
  obtain ⟨r1, m2, hr1, h⟩ := bn_some h
  have q3 := R_wrong_run hL hr1
  have c4 := (RC_0 hL).1
  have hL := q3.2
  refine ai (q_callV (pc := 55) (As := [.int 5, .int x3]) (st := []) (st2 := []) (b := 0) rfl rfl (by decide +kernel : decode k_R_number.2.1 55 = .ok (.invokevirtual 374, 3)) lc_12_374 mo_R_wrong ⟨Nat.le_of_ble_eq_true rfl, Nat.le_of_ble_eq_true rfl⟩ (Nat.le_of_ble_eq_true rfl) (Nat.le_of_ble_eq_true rfl) c4 q3.1) ?_
  refine ai (r_iload (pc := 58) (k := 2) (by decide +kernel : decode k_R_number.2.1 58 = .ok (.iload 4, 2)) rfl) ?_
  cases h
  exact ⟨r_iret rfl (by decide +kernel : decode k_R_number.2.1 60 = .ok (.ireturn, 1)), hL⟩
set_option maxRecDepth 100000 in
set_option maxHeartbeats 4000000 in
theorem R_number_26_run {x1 : Int32} {x2 : Int32} {x3 : Int32} {s0 : Int32} {m m' : Mem} {r : Int32} (hL : RL m) (h : R_number_26 x1 x2 x3 s0 m = some (r, m')) : Run k_R_number 26 [(0, .ref 0), (1, .int x1), (2, .int x2), (3, .int x3)] [.int s0] m (some (.int r)) m' ∧ RL m' := by
  unfold R_number_26 at h
  refine ai (e_istore (pc := 26) rfl (by decide +kernel : decode k_R_number.2.1 26 = .ok (.istore 4, 2)) (by decide) rfl) ?_
  refine ai (p_aload_n (pc := 28) (k := 1) (by decide +kernel : decode k_R_number.2.1 28 = .ok (.aload_n 0, 1)) rfl rfl) ?_
  refine ai (r_iconst (pc := 29) (by decide +kernel : decode k_R_number.2.1 29 = .ok (.iconst 2, 1)) ic_2) ?_
  obtain ⟨r1, m2, hr1, h⟩ := bn_some h
  have q3 := R_must_run hL hr1
  have c4 := (RC_0 hL).1
  have hL := q3.2
  refine ai (q_callV (pc := 30) (As := [.int 2]) (st := []) (st2 := []) (b := 0) rfl rfl (by decide +kernel : decode k_R_number.2.1 30 = .ok (.invokevirtual 382, 3)) lc_12_382 mo_R_must ⟨Nat.le_of_ble_eq_true rfl, Nat.le_of_ble_eq_true rfl⟩ (Nat.le_of_ble_eq_true rfl) (Nat.le_of_ble_eq_true rfl) c4 q3.1) ?_
  refine ai (p_aload_n (pc := 33) (k := 1) (by decide +kernel : decode k_R_number.2.1 33 = .ok (.aload_n 0, 1)) rfl rfl) ?_
  refine ai (r_getI (pc := 34) (by decide +kernel : decode k_R_number.2.1 34 = .ok (.getfield 314, 3)) lg_12_314 (by decide) (RC_0 hL).1) ?_
  rcases ite_some h with ⟨c5, h⟩ | ⟨c5, h⟩
  · refine ai (r_if_ne_f (pc := 37) 58 (by decide +kernel : decode k_R_number.2.1 37 = .ok (.ifCond .ne (21), 3)) (by decide) c5) ?_
    refine ai (r_iload (pc := 40) (k := 0) (by decide +kernel : decode k_R_number.2.1 40 = .ok (.iload 4, 2)) rfl) ?_
    refine ai (r_iload_n (pc := 42) (k := 2) (by decide +kernel : decode k_R_number.2.1 42 = .ok (.iload_n 1, 1)) rfl rfl) ?_
    rcases ite_some h with ⟨c6, h⟩ | ⟨c6, h⟩
    · refine ai (r_icmp_lt_t (pc := 43) (tgt := 52) (by decide +kernel : decode k_R_number.2.1 43 = .ok (.if_icmp .lt (9), 3)) (by decide) c6) ?_
      exact (ai (r_sub [1, 4, 0] rfl) (R_number_52_run hL h))
    · refine ai (r_icmp_lt_f (pc := 43) 52 (by decide +kernel : decode k_R_number.2.1 43 = .ok (.if_icmp .lt (9), 3)) (by decide) c6) ?_
      refine ai (r_iload (pc := 46) (k := 0) (by decide +kernel : decode k_R_number.2.1 46 = .ok (.iload 4, 2)) rfl) ?_
      refine ai (r_iload_n (pc := 48) (k := 3) (by decide +kernel : decode k_R_number.2.1 48 = .ok (.iload_n 2, 1)) rfl rfl) ?_
      rcases ite_some h with ⟨c7, h⟩ | ⟨c7, h⟩
      · refine ai (r_icmp_le_t (pc := 49) (tgt := 58) (by decide +kernel : decode k_R_number.2.1 49 = .ok (.if_icmp .le (9), 3)) (by decide) c7) ?_
        refine ai (r_iload (pc := 58) (k := 0) (by decide +kernel : decode k_R_number.2.1 58 = .ok (.iload 4, 2)) rfl) ?_
        cases h
        exact ⟨r_iret rfl (by decide +kernel : decode k_R_number.2.1 60 = .ok (.ireturn, 1)), hL⟩
      · refine ai (r_icmp_le_f (pc := 49) 58 (by decide +kernel : decode k_R_number.2.1 49 = .ok (.if_icmp .le (9), 3)) (by decide) c7) ?_
        exact (ai (r_sub [1, 4, 0] rfl) (R_number_52_run hL h))
  · refine ai (r_if_ne_t (pc := 37) (tgt := 58) (by decide +kernel : decode k_R_number.2.1 37 = .ok (.ifCond .ne (21), 3)) (by decide) c5) ?_
    refine ai (r_iload (pc := 58) (k := 0) (by decide +kernel : decode k_R_number.2.1 58 = .ok (.iload 4, 2)) rfl) ?_
    cases h
    exact ⟨r_iret rfl (by decide +kernel : decode k_R_number.2.1 60 = .ok (.ireturn, 1)), hL⟩
set_option maxRecDepth 100000 in
set_option maxHeartbeats 4000000 in
theorem R_number_run {x1 : Int32} {x2 : Int32} {m m' : Mem} {r : Int32} (hL : RL m) (h : R_number x1 x2 m = some (r, m')) : Run k_R_number 0 [(0, .ref 0), (1, .int x1), (2, .int x2)] [] m (some (.int r)) m' ∧ RL m' := by
  unfold R_number at h
  refine ai (p_aload_n (pc := 0) (k := 0) (by decide +kernel : decode k_R_number.2.1 0 = .ok (.aload_n 0, 1)) rfl rfl) ?_
  refine ai (r_getI (pc := 1) (by decide +kernel : decode k_R_number.2.1 1 = .ok (.getfield 317, 3)) lg_12_317 (by decide) (RC_0 hL).1) ?_
  obtain ⟨v1, hv1, h⟩ := vb_some h
  refine ai (e_istore_n (pc := 4) hv1 (by decide +kernel : decode k_R_number.2.1 4 = .ok (.istore_n 3, 1)) rfl (by decide) rfl) ?_
  refine ai (p_aload_n (pc := 5) (k := 1) (by decide +kernel : decode k_R_number.2.1 5 = .ok (.aload_n 0, 1)) rfl rfl) ?_
  refine ai (r_iconst (pc := 6) (by decide +kernel : decode k_R_number.2.1 6 = .ok (.iconst 2, 1)) ic_2) ?_
  obtain ⟨r2, m3, hr2, h⟩ := bn_some h
  have q4 := R_is_run hL hr2
  have c5 := (RC_0 hL).1
  have hL := q4.2
  refine ai (q_callV (pc := 7) (As := [.int 2]) (st := []) (st2 := [.int r2]) (b := 0) rfl rfl (by decide +kernel : decode k_R_number.2.1 7 = .ok (.invokevirtual 332, 3)) lc_12_332 mo_R_is ⟨Nat.le_of_ble_eq_true rfl, Nat.le_of_ble_eq_true rfl⟩ (Nat.le_of_ble_eq_true rfl) (Nat.le_of_ble_eq_true rfl) c5 q4.1) ?_
  rcases ite_some h with ⟨c6, h⟩ | ⟨c6, h⟩
  · refine ai (r_if_eq_t (pc := 10) (tgt := 25) (by decide +kernel : decode k_R_number.2.1 10 = .ok (.ifCond .eq (15), 3)) (by decide) c6) ?_
    refine ai (r_iconst (pc := 25) (by decide +kernel : decode k_R_number.2.1 25 = .ok (.iconst 0, 1)) ic_0) ?_
    exact (ai (r_sub [1, 2, 3, 0] rfl) (R_number_26_run hL h))
  · refine ai (r_if_eq_f (pc := 10) 25 (by decide +kernel : decode k_R_number.2.1 10 = .ok (.ifCond .eq (15), 3)) (by decide) c6) ?_
    refine ai (p_aload_n (pc := 13) (k := 1) (by decide +kernel : decode k_R_number.2.1 13 = .ok (.aload_n 0, 1)) rfl rfl) ?_
    refine ai (p_getr (pc := 14) (RR_1543_0 hL) (by decide +kernel : decode k_R_number.2.1 14 = .ok (.getfield 27, 3)) lg_12_27 (RC_0 hL).1) ?_
    refine ai (p_aload_n (pc := 17) (k := 1) (by decide +kernel : decode k_R_number.2.1 17 = .ok (.aload_n 0, 1)) rfl rfl) ?_
    refine ai (r_getI (pc := 18) (by decide +kernel : decode k_R_number.2.1 18 = .ok (.getfield 317, 3)) lg_12_317 (by decide) (RC_0 hL).1) ?_
    obtain ⟨g7, h⟩ := gd_some h
    refine ai (p_iald (pc := 21) (by decide +kernel : decode k_R_number.2.1 21 = .ok (.iaload, 1)) (RC_5 hL).1 (RC_5 hL).2 g7) ?_
    refine ai (r_goto (pc := 22) (tgt := 26) (by decide +kernel : decode k_R_number.2.1 22 = .ok (.goto (4), 3)) (by decide)) ?_
    exact (ai (r_sub [1, 2, 3, 0] rfl) (R_number_26_run hL h))
set_option maxRecDepth 100000 in
set_option maxHeartbeats 4000000 in
theorem R_tellHead_178_run {k137 : Int32 → Int32 → Int32 → Int32 → Mem → Option (Unit × Mem)} {x1 : Int32} {x2 : Int32} {x3 : Int32} {x4 : Int32} {m m' : Mem} {r : Unit} (hk137 : ∀ (x1 : Int32) (x2 : Int32) (x3 : Int32) (x4 : Int32) (m : Mem) (r : Unit) (m' : Mem), RL m → k137 x1 x2 x3 x4 m = some (r, m') → Run k_R_tellHead 137 [(0, .ref 0), (1, .int x1), (2, .int x2), (3, .int x3), (4, .int x4)] [] m none m' ∧ RL m') (hL : RL m) (h : R_tellHead_178 k137 x1 x2 x3 x4 m = some (r, m')) : Run k_R_tellHead 178 [(0, .ref 0), (1, .int x1), (2, .int x2), (3, .int x3), (4, .int x4)] [] m none m' ∧ RL m' := by
  unfold R_tellHead_178 at h
  obtain ⟨v1, hv1, h⟩ := vb_some h
  refine ai (e_iinc (pc := 178) (k := 4) hv1 ic_1 (by decide +kernel : decode k_R_tellHead.2.1 178 = .ok (.iinc 4 (1), 3)) rfl (by decide) rfl) ?_
  refine ai (r_goto (pc := 181) (tgt := 137) (by decide +kernel : decode k_R_tellHead.2.1 181 = .ok (.goto (-44), 3)) (by decide)) ?_
  exact (ai (r_sub [1, 2, 3, 4, 0] rfl) (hk137 x1 x2 x3 v1 m _ _ hL h))
set_option maxRecDepth 100000 in
set_option maxHeartbeats 4000000 in
theorem R_tellHead_209_run {x1 : Int32} {x2 : Int32} {x3 : Int32} {m m' : Mem} {r : Unit} (hL : RL m) (h : R_tellHead_209 x1 x2 x3 m = some (r, m')) : Run k_R_tellHead 209 [(0, .ref 0), (1, .int x1), (2, .int x2), (3, .int x3)] [] m none m' ∧ RL m' := by
  unfold R_tellHead_209 at h
  refine ai (r_iload_n (pc := 209) (k := 1) (by decide +kernel : decode k_R_tellHead.2.1 209 = .ok (.iload_n 1, 1)) rfl rfl) ?_
  rcases ite_some h with ⟨c1, h⟩ | ⟨c1, h⟩
  · refine ai (r_if_le_t (pc := 210) (tgt := 224) (by decide +kernel : decode k_R_tellHead.2.1 210 = .ok (.ifCond .le (14), 3)) (by decide) c1) ?_
    cases h
    exact ⟨r_vret rfl (by decide +kernel : decode k_R_tellHead.2.1 224 = .ok (.return_, 1)), hL⟩
  · refine ai (r_if_le_f (pc := 210) 224 (by decide +kernel : decode k_R_tellHead.2.1 210 = .ok (.ifCond .le (14), 3)) (by decide) c1) ?_
    refine ai (r_iload_n (pc := 213) (k := 3) (by decide +kernel : decode k_R_tellHead.2.1 213 = .ok (.iload_n 3, 1)) rfl rfl) ?_
    refine ai (r_iconst (pc := 214) (by decide +kernel : decode k_R_tellHead.2.1 214 = .ok (.iconst (-1), 1)) ic_m1) ?_
    rcases ite_some h with ⟨c2, h⟩ | ⟨c2, h⟩
    · refine ai (r_icmp_ne_f (pc := 215) 224 (by decide +kernel : decode k_R_tellHead.2.1 215 = .ok (.if_icmp .ne (9), 3)) (by decide) c2) ?_
      refine ai (p_aload_n (pc := 218) (k := 0) (by decide +kernel : decode k_R_tellHead.2.1 218 = .ok (.aload_n 0, 1)) rfl rfl) ?_
      refine ai (r_iconst (pc := 219) (by decide +kernel : decode k_R_tellHead.2.1 219 = .ok (.iconst 4, 1)) ic_4) ?_
      refine ai (r_iload_n (pc := 220) (k := 2) (by decide +kernel : decode k_R_tellHead.2.1 220 = .ok (.iload_n 2, 1)) rfl rfl) ?_
      obtain ⟨r3, m4, hr3, h⟩ := bn_some h
      have q5 := R_wrong_run hL hr3
      have c6 := (RC_0 hL).1
      have hL := q5.2
      refine ai (q_callV (pc := 221) (As := [.int 4, .int x2]) (st := []) (st2 := []) (b := 0) rfl rfl (by decide +kernel : decode k_R_tellHead.2.1 221 = .ok (.invokevirtual 374, 3)) lc_12_374 mo_R_wrong ⟨Nat.le_of_ble_eq_true rfl, Nat.le_of_ble_eq_true rfl⟩ (Nat.le_of_ble_eq_true rfl) (Nat.le_of_ble_eq_true rfl) c6 q5.1) ?_
      cases h
      exact ⟨r_vret rfl (by decide +kernel : decode k_R_tellHead.2.1 224 = .ok (.return_, 1)), hL⟩
    · refine ai (r_icmp_ne_t (pc := 215) (tgt := 224) (by decide +kernel : decode k_R_tellHead.2.1 215 = .ok (.if_icmp .ne (9), 3)) (by decide) c2) ?_
      cases h
      exact ⟨r_vret rfl (by decide +kernel : decode k_R_tellHead.2.1 224 = .ok (.return_, 1)), hL⟩
set_option maxRecDepth 100000 in
set_option maxHeartbeats 4000000 in
theorem R_tellHead_184_run {x1 : Int32} {x2 : Int32} {x3 : Int32} {m m' : Mem} {r : Unit} (hL : RL m) (h : R_tellHead_184 x1 x2 x3 m = some (r, m')) : Run k_R_tellHead 184 [(0, .ref 0), (1, .int x1), (2, .int x2), (3, .int x3)] [] m none m' ∧ RL m' := by
  unfold R_tellHead_184 at h
  refine ai (p_aload_n (pc := 184) (k := 0) (by decide +kernel : decode k_R_tellHead.2.1 184 = .ok (.aload_n 0, 1)) rfl rfl) ?_
  refine ai (p_getr (pc := 185) (RR_1560_0 hL) (by decide +kernel : decode k_R_tellHead.2.1 185 = .ok (.getfield 55, 3)) lg_12_55 (RC_0 hL).1) ?_
  refine ai (p_aload_n (pc := 188) (k := 0) (by decide +kernel : decode k_R_tellHead.2.1 188 = .ok (.aload_n 0, 1)) rfl rfl) ?_
  refine ai (r_getI (pc := 189) (by decide +kernel : decode k_R_tellHead.2.1 189 = .ok (.getfield 350, 3)) lg_12_350 (by decide) (RC_0 hL).1) ?_
  refine ai (r_iload_n (pc := 192) (k := 3) (by decide +kernel : decode k_R_tellHead.2.1 192 = .ok (.iload_n 3, 1)) rfl rfl) ?_
  obtain ⟨g1, h⟩ := gd_some h
  have c2 := (RC_13 hL).1
  have c3 := (RC_13 hL).2
  obtain ⟨m4, hm4, h⟩ := vb_some h
  have hL : RL m4 := by rw [hm4]; exact hL
  refine ai (p_iast (pc := 193) hm4 (by decide +kernel : decode k_R_tellHead.2.1 193 = .ok (.iastore, 1)) c2 c3 g1) ?_
  refine ai (r_iload_n (pc := 194) (k := 1) (by decide +kernel : decode k_R_tellHead.2.1 194 = .ok (.iload_n 1, 1)) rfl rfl) ?_
  rcases ite_some h with ⟨c5, h⟩ | ⟨c5, h⟩
  · refine ai (r_if_ne_f (pc := 195) 209 (by decide +kernel : decode k_R_tellHead.2.1 195 = .ok (.ifCond .ne (14), 3)) (by decide) c5) ?_
    refine ai (r_iload_n (pc := 198) (k := 3) (by decide +kernel : decode k_R_tellHead.2.1 198 = .ok (.iload_n 3, 1)) rfl rfl) ?_
    refine ai (r_iconst (pc := 199) (by decide +kernel : decode k_R_tellHead.2.1 199 = .ok (.iconst (-1), 1)) ic_m1) ?_
    rcases ite_some h with ⟨c6, h⟩ | ⟨c6, h⟩
    · refine ai (r_icmp_eq_t (pc := 200) (tgt := 209) (by decide +kernel : decode k_R_tellHead.2.1 200 = .ok (.if_icmp .eq (9), 3)) (by decide) c6) ?_
      exact (R_tellHead_209_run hL h)
    · refine ai (r_icmp_eq_f (pc := 200) 209 (by decide +kernel : decode k_R_tellHead.2.1 200 = .ok (.if_icmp .eq (9), 3)) (by decide) c6) ?_
      refine ai (p_aload_n (pc := 203) (k := 0) (by decide +kernel : decode k_R_tellHead.2.1 203 = .ok (.aload_n 0, 1)) rfl rfl) ?_
      refine ai (r_iconst (pc := 204) (by decide +kernel : decode k_R_tellHead.2.1 204 = .ok (.iconst 3, 1)) ic_3) ?_
      refine ai (r_iload_n (pc := 205) (k := 2) (by decide +kernel : decode k_R_tellHead.2.1 205 = .ok (.iload_n 2, 1)) rfl rfl) ?_
      obtain ⟨r7, m8, hr7, h⟩ := bn_some h
      have q9 := R_wrong_run hL hr7
      have c10 := (RC_0 hL).1
      have hL := q9.2
      refine ai (q_callV (pc := 206) (As := [.int 3, .int x2]) (st := []) (st2 := []) (b := 0) rfl rfl (by decide +kernel : decode k_R_tellHead.2.1 206 = .ok (.invokevirtual 374, 3)) lc_12_374 mo_R_wrong ⟨Nat.le_of_ble_eq_true rfl, Nat.le_of_ble_eq_true rfl⟩ (Nat.le_of_ble_eq_true rfl) (Nat.le_of_ble_eq_true rfl) c10 q9.1) ?_
      exact (R_tellHead_209_run hL h)
  · refine ai (r_if_ne_t (pc := 195) (tgt := 209) (by decide +kernel : decode k_R_tellHead.2.1 195 = .ok (.ifCond .ne (14), 3)) (by decide) c5) ?_
    exact (R_tellHead_209_run hL h)
set_option maxRecDepth 100000 in
set_option maxHeartbeats 4000000 in
theorem R_tellHead_137_run {n : Nat} {x1 : Int32} {x2 : Int32} {x3 : Int32} {x4 : Int32} {m m' : Mem} {r : Unit} (hL : RL m) (h : R_tellHead_137 n x1 x2 x3 x4 m = some (r, m')) : Run k_R_tellHead 137 [(0, .ref 0), (1, .int x1), (2, .int x2), (3, .int x3), (4, .int x4)] [] m none m' ∧ RL m' := by
  induction n generalizing x1 x2 x3 x4 m r m' with
  | zero => exact absurd h (by simp [R_tellHead_137])
  | succ n ih =>
    rw [R_tellHead_137.eq_2] at h
    refine ai (r_iload (pc := 137) (k := 4) (by decide +kernel : decode k_R_tellHead.2.1 137 = .ok (.iload 4, 2)) rfl) ?_
    refine ai (p_aload_n (pc := 139) (k := 0) (by decide +kernel : decode k_R_tellHead.2.1 139 = .ok (.aload_n 0, 1)) rfl rfl) ?_
    refine ai (r_getI (pc := 140) (by decide +kernel : decode k_R_tellHead.2.1 140 = .ok (.getfield 341, 3)) lg_12_341 (by decide) (RC_0 hL).1) ?_
    rcases ite_some h with ⟨c1, h⟩ | ⟨c1, h⟩
    · refine ai (r_icmp_ge_t (pc := 143) (tgt := 184) (by decide +kernel : decode k_R_tellHead.2.1 143 = .ok (.if_icmp .ge (41), 3)) (by decide) c1) ?_
      exact (ai (r_sub [0, 1, 2, 3] rfl) (R_tellHead_184_run hL h))
    · refine ai (r_icmp_ge_f (pc := 143) 184 (by decide +kernel : decode k_R_tellHead.2.1 143 = .ok (.if_icmp .ge (41), 3)) (by decide) c1) ?_
      refine ai (p_aload_n (pc := 146) (k := 0) (by decide +kernel : decode k_R_tellHead.2.1 146 = .ok (.aload_n 0, 1)) rfl rfl) ?_
      refine ai (p_getr (pc := 147) (RR_1555_0 hL) (by decide +kernel : decode k_R_tellHead.2.1 147 = .ok (.getfield 40, 3)) lg_12_40 (RC_0 hL).1) ?_
      refine ai (r_iload (pc := 150) (k := 4) (by decide +kernel : decode k_R_tellHead.2.1 150 = .ok (.iload 4, 2)) rfl) ?_
      obtain ⟨g2, h⟩ := gd_some h
      refine ai (p_iald (pc := 152) (by decide +kernel : decode k_R_tellHead.2.1 152 = .ok (.iaload, 1)) (RC_8 hL).1 (RC_8 hL).2 g2) ?_
      rcases ite_some h with ⟨c3, h⟩ | ⟨c3, h⟩
      · refine ai (r_if_ne_f (pc := 153) 178 (by decide +kernel : decode k_R_tellHead.2.1 153 = .ok (.ifCond .ne (25), 3)) (by decide) c3) ?_
        refine ai (p_aload_n (pc := 156) (k := 0) (by decide +kernel : decode k_R_tellHead.2.1 156 = .ok (.aload_n 0, 1)) rfl rfl) ?_
        refine ai (p_getr (pc := 157) (RR_1556_0 hL) (by decide +kernel : decode k_R_tellHead.2.1 157 = .ok (.getfield 43, 3)) lg_12_43 (RC_0 hL).1) ?_
        refine ai (r_iload (pc := 160) (k := 4) (by decide +kernel : decode k_R_tellHead.2.1 160 = .ok (.iload 4, 2)) rfl) ?_
        obtain ⟨g4, h⟩ := gd_some h
        refine ai (p_iald (pc := 162) (by decide +kernel : decode k_R_tellHead.2.1 162 = .ok (.iaload, 1)) (RC_9 hL).1 (RC_9 hL).2 g4) ?_
        refine ai (p_aload_n (pc := 163) (k := 0) (by decide +kernel : decode k_R_tellHead.2.1 163 = .ok (.aload_n 0, 1)) rfl rfl) ?_
        refine ai (p_getr (pc := 164) (RR_1556_0 hL) (by decide +kernel : decode k_R_tellHead.2.1 164 = .ok (.getfield 43, 3)) lg_12_43 (RC_0 hL).1) ?_
        refine ai (p_aload_n (pc := 167) (k := 0) (by decide +kernel : decode k_R_tellHead.2.1 167 = .ok (.aload_n 0, 1)) rfl rfl) ?_
        refine ai (r_getI (pc := 168) (by decide +kernel : decode k_R_tellHead.2.1 168 = .ok (.getfield 350, 3)) lg_12_350 (by decide) (RC_0 hL).1) ?_
        obtain ⟨g5, h⟩ := gd_some h
        refine ai (p_iald (pc := 171) (by decide +kernel : decode k_R_tellHead.2.1 171 = .ok (.iaload, 1)) (RC_9 hL).1 (RC_9 hL).2 g5) ?_
        rcases ite_some h with ⟨c6, h⟩ | ⟨c6, h⟩
        · refine ai (r_icmp_ne_f (pc := 172) 178 (by decide +kernel : decode k_R_tellHead.2.1 172 = .ok (.if_icmp .ne (6), 3)) (by decide) c6) ?_
          refine ai (r_iload (pc := 175) (k := 4) (by decide +kernel : decode k_R_tellHead.2.1 175 = .ok (.iload 4, 2)) rfl) ?_
          refine ai (e_istore_n (pc := 177) rfl (by decide +kernel : decode k_R_tellHead.2.1 177 = .ok (.istore_n 3, 1)) rfl (by decide) rfl) ?_
          exact (ai (r_sub [1, 2, 3, 0, 4] rfl) (R_tellHead_178_run (fun _ _ _ _ _ _ _ q1 q3 => ih q1 q3) hL h))
        · refine ai (r_icmp_ne_t (pc := 172) (tgt := 178) (by decide +kernel : decode k_R_tellHead.2.1 172 = .ok (.if_icmp .ne (6), 3)) (by decide) c6) ?_
          exact (R_tellHead_178_run (fun _ _ _ _ _ _ _ q1 q3 => ih q1 q3) hL h)
      · refine ai (r_if_ne_t (pc := 153) (tgt := 178) (by decide +kernel : decode k_R_tellHead.2.1 153 = .ok (.ifCond .ne (25), 3)) (by decide) c3) ?_
        exact (R_tellHead_178_run (fun _ _ _ _ _ _ _ q1 q3 => ih q1 q3) hL h)
set_option maxRecDepth 100000 in
set_option maxHeartbeats 4000000 in
theorem R_tellHead_96_run {x1 : Int32} {x2 : Int32} {m m' : Mem} {r : Unit} (hL : RL m) (h : R_tellHead_96 x1 x2 m = some (r, m')) : Run k_R_tellHead 96 [(0, .ref 0), (1, .int x1), (2, .int x2)] [] m none m' ∧ RL m' := by
  unfold R_tellHead_96 at h
  refine ai (p_aload_n (pc := 96) (k := 0) (by decide +kernel : decode k_R_tellHead.2.1 96 = .ok (.aload_n 0, 1)) rfl rfl) ?_
  refine ai (r_bipush (pc := 97) (by decide +kernel : decode k_R_tellHead.2.1 97 = .ok (.bipush (25), 2)) (by decide : _ = (25 : Int32))) ?_
  obtain ⟨r1, m2, hr1, h⟩ := bn_some h
  have q3 := R_must_run hL hr1
  have c4 := (RC_0 hL).1
  have hL := q3.2
  refine ai (q_callV (pc := 99) (As := [.int 25]) (st := []) (st2 := []) (b := 0) rfl rfl (by decide +kernel : decode k_R_tellHead.2.1 99 = .ok (.invokevirtual 382, 3)) lc_12_382 mo_R_must ⟨Nat.le_of_ble_eq_true rfl, Nat.le_of_ble_eq_true rfl⟩ (Nat.le_of_ble_eq_true rfl) (Nat.le_of_ble_eq_true rfl) c4 q3.1) ?_
  refine ai (p_aload_n (pc := 102) (k := 0) (by decide +kernel : decode k_R_tellHead.2.1 102 = .ok (.aload_n 0, 1)) rfl rfl) ?_
  refine ai (p_getr (pc := 103) (RR_1558_0 hL) (by decide +kernel : decode k_R_tellHead.2.1 103 = .ok (.getfield 49, 3)) lg_12_49 (RC_0 hL).1) ?_
  refine ai (p_aload_n (pc := 106) (k := 0) (by decide +kernel : decode k_R_tellHead.2.1 106 = .ok (.aload_n 0, 1)) rfl rfl) ?_
  refine ai (r_getI (pc := 107) (by decide +kernel : decode k_R_tellHead.2.1 107 = .ok (.getfield 350, 3)) lg_12_350 (by decide) (RC_0 hL).1) ?_
  refine ai (p_aload_n (pc := 110) (k := 0) (by decide +kernel : decode k_R_tellHead.2.1 110 = .ok (.aload_n 0, 1)) rfl rfl) ?_
  refine ai (r_iconst (pc := 111) (by decide +kernel : decode k_R_tellHead.2.1 111 = .ok (.iconst 0, 1)) ic_0) ?_
  refine ai (r_sipush (pc := 112) (by decide +kernel : decode k_R_tellHead.2.1 112 = .ok (.sipush (139), 3)) (by decide : _ = (139 : Int32))) ?_
  obtain ⟨r5, m6, hr5, h⟩ := bn_some h
  have q7 := R_number_run hL hr5
  have c8 := (RC_0 hL).1
  have hL := q7.2
  refine ai (q_callV (pc := 115) (As := [.int 0, .int 139]) (st := [.int (mI m2 1588 0), .ref 11]) (st2 := [.int r5, .int (mI m2 1588 0), .ref 11]) (b := 0) rfl rfl (by decide +kernel : decode k_R_tellHead.2.1 115 = .ok (.invokevirtual 389, 3)) lc_12_389 mo_R_number ⟨Nat.le_of_ble_eq_true rfl, Nat.le_of_ble_eq_true rfl⟩ (Nat.le_of_ble_eq_true rfl) (Nat.le_of_ble_eq_true rfl) c8 q7.1) ?_
  obtain ⟨g9, h⟩ := gd_some h
  have c10 := (RC_11 hL).1
  have c11 := (RC_11 hL).2
  obtain ⟨m12, hm12, h⟩ := vb_some h
  have hL : RL m12 := by rw [hm12]; exact hL
  refine ai (p_iast (pc := 118) hm12 (by decide +kernel : decode k_R_tellHead.2.1 118 = .ok (.iastore, 1)) c10 c11 g9) ?_
  refine ai (p_aload_n (pc := 119) (k := 0) (by decide +kernel : decode k_R_tellHead.2.1 119 = .ok (.aload_n 0, 1)) rfl rfl) ?_
  refine ai (r_iconst (pc := 120) (by decide +kernel : decode k_R_tellHead.2.1 120 = .ok (.iconst 4, 1)) ic_4) ?_
  obtain ⟨r13, m14, hr13, h⟩ := bn_some h
  have q15 := R_must_run hL hr13
  have c16 := (RC_0 hL).1
  have hL := q15.2
  refine ai (q_callV (pc := 121) (As := [.int 4]) (st := []) (st2 := []) (b := 0) rfl rfl (by decide +kernel : decode k_R_tellHead.2.1 121 = .ok (.invokevirtual 382, 3)) lc_12_382 mo_R_must ⟨Nat.le_of_ble_eq_true rfl, Nat.le_of_ble_eq_true rfl⟩ (Nat.le_of_ble_eq_true rfl) (Nat.le_of_ble_eq_true rfl) c16 q15.1) ?_
  refine ai (p_aload_n (pc := 124) (k := 0) (by decide +kernel : decode k_R_tellHead.2.1 124 = .ok (.aload_n 0, 1)) rfl rfl) ?_
  refine ai (r_getI (pc := 125) (by decide +kernel : decode k_R_tellHead.2.1 125 = .ok (.getfield 314, 3)) lg_12_314 (by decide) (RC_0 hL).1) ?_
  rcases ite_some h with ⟨c17, h⟩ | ⟨c17, h⟩
  · refine ai (r_if_le_t (pc := 128) (tgt := 132) (by decide +kernel : decode k_R_tellHead.2.1 128 = .ok (.ifCond .le (4), 3)) (by decide) c17) ?_
    refine ai (r_iconst (pc := 132) (by decide +kernel : decode k_R_tellHead.2.1 132 = .ok (.iconst (-1), 1)) ic_m1) ?_
    refine ai (e_istore_n (pc := 133) rfl (by decide +kernel : decode k_R_tellHead.2.1 133 = .ok (.istore_n 3, 1)) rfl (by decide) rfl) ?_
    refine ai (r_iconst (pc := 134) (by decide +kernel : decode k_R_tellHead.2.1 134 = .ok (.iconst 0, 1)) ic_0) ?_
    refine ai (e_istore (pc := 135) rfl (by decide +kernel : decode k_R_tellHead.2.1 135 = .ok (.istore 4, 2)) (by decide) rfl) ?_
    exact (ai (r_sub [2, 3, 4, 1, 0] rfl) (R_tellHead_137_run hL h))
  · refine ai (r_if_le_f (pc := 128) 132 (by decide +kernel : decode k_R_tellHead.2.1 128 = .ok (.ifCond .le (4), 3)) (by decide) c17) ?_
    cases h
    exact ⟨r_vret rfl (by decide +kernel : decode k_R_tellHead.2.1 131 = .ok (.return_, 1)), hL⟩
set_option maxRecDepth 100000 in
set_option maxHeartbeats 4000000 in
theorem R_tellHead_27_run {x1 : Int32} {m m' : Mem} {r : Unit} (hL : RL m) (h : R_tellHead_27 x1 m = some (r, m')) : Run k_R_tellHead 27 [(0, .ref 0), (1, .int x1)] [] m none m' ∧ RL m' := by
  unfold R_tellHead_27 at h
  refine ai (p_aload_n (pc := 27) (k := 0) (by decide +kernel : decode k_R_tellHead.2.1 27 = .ok (.aload_n 0, 1)) rfl rfl) ?_
  obtain ⟨r1, m2, hr1, h⟩ := bn_some h
  have q3 := R_next_run hL hr1
  have c4 := (RC_0 hL).1
  have hL := q3.2
  refine ai (q_callV (pc := 28) (As := []) (st := []) (st2 := []) (b := 0) rfl rfl (by decide +kernel : decode k_R_tellHead.2.1 28 = .ok (.invokevirtual 335, 3)) lc_12_335 mo_R_next ⟨Nat.le_of_ble_eq_true rfl, Nat.le_of_ble_eq_true rfl⟩ (Nat.le_of_ble_eq_true rfl) (Nat.le_of_ble_eq_true rfl) c4 q3.1) ?_
  refine ai (p_aload_n (pc := 31) (k := 0) (by decide +kernel : decode k_R_tellHead.2.1 31 = .ok (.aload_n 0, 1)) rfl rfl) ?_
  refine ai (r_getI (pc := 32) (by decide +kernel : decode k_R_tellHead.2.1 32 = .ok (.getfield 317, 3)) lg_12_317 (by decide) (RC_0 hL).1) ?_
  obtain ⟨v5, hv5, h⟩ := vb_some h
  refine ai (e_istore_n (pc := 35) hv5 (by decide +kernel : decode k_R_tellHead.2.1 35 = .ok (.istore_n 2, 1)) rfl (by decide) rfl) ?_
  refine ai (p_aload_n (pc := 36) (k := 1) (by decide +kernel : decode k_R_tellHead.2.1 36 = .ok (.aload_n 0, 1)) rfl rfl) ?_
  refine ai (p_getr (pc := 37) (RR_1555_0 hL) (by decide +kernel : decode k_R_tellHead.2.1 37 = .ok (.getfield 40, 3)) lg_12_40 (RC_0 hL).1) ?_
  refine ai (p_aload_n (pc := 40) (k := 1) (by decide +kernel : decode k_R_tellHead.2.1 40 = .ok (.aload_n 0, 1)) rfl rfl) ?_
  refine ai (r_getI (pc := 41) (by decide +kernel : decode k_R_tellHead.2.1 41 = .ok (.getfield 350, 3)) lg_12_350 (by decide) (RC_0 hL).1) ?_
  refine ai (r_iload_n (pc := 44) (k := 2) (by decide +kernel : decode k_R_tellHead.2.1 44 = .ok (.iload_n 1, 1)) rfl rfl) ?_
  obtain ⟨g6, h⟩ := gd_some h
  have c7 := (RC_8 hL).1
  have c8 := (RC_8 hL).2
  obtain ⟨m9, hm9, h⟩ := vb_some h
  have hL : RL m9 := by rw [hm9]; exact hL
  refine ai (p_iast (pc := 45) hm9 (by decide +kernel : decode k_R_tellHead.2.1 45 = .ok (.iastore, 1)) c7 c8 g6) ?_
  refine ai (p_aload_n (pc := 46) (k := 1) (by decide +kernel : decode k_R_tellHead.2.1 46 = .ok (.aload_n 0, 1)) rfl rfl) ?_
  refine ai (p_getr (pc := 47) (RR_1556_0 hL) (by decide +kernel : decode k_R_tellHead.2.1 47 = .ok (.getfield 43, 3)) lg_12_43 (RC_0 hL).1) ?_
  refine ai (p_aload_n (pc := 50) (k := 1) (by decide +kernel : decode k_R_tellHead.2.1 50 = .ok (.aload_n 0, 1)) rfl rfl) ?_
  refine ai (r_getI (pc := 51) (by decide +kernel : decode k_R_tellHead.2.1 51 = .ok (.getfield 350, 3)) lg_12_350 (by decide) (RC_0 hL).1) ?_
  refine ai (p_aload_n (pc := 54) (k := 1) (by decide +kernel : decode k_R_tellHead.2.1 54 = .ok (.aload_n 0, 1)) rfl rfl) ?_
  obtain ⟨r10, m11, hr10, h⟩ := bn_some h
  have q12 := R_name_run hL hr10
  have c13 := (RC_0 hL).1
  have hL := q12.2
  refine ai (q_callV (pc := 55) (As := []) (st := [.int (mI m9 1588 0), .ref 9]) (st2 := [.int r10, .int (mI m9 1588 0), .ref 9]) (b := 0) rfl rfl (by decide +kernel : decode k_R_tellHead.2.1 55 = .ok (.invokevirtual 385, 3)) lc_12_385 mo_R_name ⟨Nat.le_of_ble_eq_true rfl, Nat.le_of_ble_eq_true rfl⟩ (Nat.le_of_ble_eq_true rfl) (Nat.le_of_ble_eq_true rfl) c13 q12.1) ?_
  obtain ⟨g14, h⟩ := gd_some h
  have c15 := (RC_9 hL).1
  have c16 := (RC_9 hL).2
  obtain ⟨m17, hm17, h⟩ := vb_some h
  have hL : RL m17 := by rw [hm17]; exact hL
  refine ai (p_iast (pc := 58) hm17 (by decide +kernel : decode k_R_tellHead.2.1 58 = .ok (.iastore, 1)) c15 c16 g14) ?_
  refine ai (p_aload_n (pc := 59) (k := 1) (by decide +kernel : decode k_R_tellHead.2.1 59 = .ok (.aload_n 0, 1)) rfl rfl) ?_
  refine ai (p_getr (pc := 60) (RR_1557_0 hL) (by decide +kernel : decode k_R_tellHead.2.1 60 = .ok (.getfield 46, 3)) lg_12_46 (RC_0 hL).1) ?_
  refine ai (p_aload_n (pc := 63) (k := 1) (by decide +kernel : decode k_R_tellHead.2.1 63 = .ok (.aload_n 0, 1)) rfl rfl) ?_
  refine ai (r_getI (pc := 64) (by decide +kernel : decode k_R_tellHead.2.1 64 = .ok (.getfield 350, 3)) lg_12_350 (by decide) (RC_0 hL).1) ?_
  refine ai (r_iconst (pc := 67) (by decide +kernel : decode k_R_tellHead.2.1 67 = .ok (.iconst (-1), 1)) ic_m1) ?_
  obtain ⟨g18, h⟩ := gd_some h
  have c19 := (RC_10 hL).1
  have c20 := (RC_10 hL).2
  obtain ⟨m21, hm21, h⟩ := vb_some h
  have hL : RL m21 := by rw [hm21]; exact hL
  refine ai (p_iast (pc := 68) hm21 (by decide +kernel : decode k_R_tellHead.2.1 68 = .ok (.iastore, 1)) c19 c20 g18) ?_
  refine ai (r_iload_n (pc := 69) (k := 2) (by decide +kernel : decode k_R_tellHead.2.1 69 = .ok (.iload_n 1, 1)) rfl rfl) ?_
  refine ai (r_iconst (pc := 70) (by decide +kernel : decode k_R_tellHead.2.1 70 = .ok (.iconst 1, 1)) ic_1) ?_
  rcases ite_some h with ⟨c22, h⟩ | ⟨c22, h⟩
  · refine ai (r_icmp_le_t (pc := 71) (tgt := 96) (by decide +kernel : decode k_R_tellHead.2.1 71 = .ok (.if_icmp .le (25), 3)) (by decide) c22) ?_
    exact (ai (r_sub [1, 2, 0] rfl) (R_tellHead_96_run hL h))
  · refine ai (r_icmp_le_f (pc := 71) 96 (by decide +kernel : decode k_R_tellHead.2.1 71 = .ok (.if_icmp .le (25), 3)) (by decide) c22) ?_
    refine ai (p_aload_n (pc := 74) (k := 1) (by decide +kernel : decode k_R_tellHead.2.1 74 = .ok (.aload_n 0, 1)) rfl rfl) ?_
    refine ai (r_bipush (pc := 75) (by decide +kernel : decode k_R_tellHead.2.1 75 = .ok (.bipush (24), 2)) (by decide : _ = (24 : Int32))) ?_
    obtain ⟨r23, m24, hr23, h⟩ := bn_some h
    have q25 := R_must_run hL hr23
    have c26 := (RC_0 hL).1
    have hL := q25.2
    refine ai (q_callV (pc := 77) (As := [.int 24]) (st := []) (st2 := []) (b := 0) rfl rfl (by decide +kernel : decode k_R_tellHead.2.1 77 = .ok (.invokevirtual 382, 3)) lc_12_382 mo_R_must ⟨Nat.le_of_ble_eq_true rfl, Nat.le_of_ble_eq_true rfl⟩ (Nat.le_of_ble_eq_true rfl) (Nat.le_of_ble_eq_true rfl) c26 q25.1) ?_
    refine ai (p_aload_n (pc := 80) (k := 1) (by decide +kernel : decode k_R_tellHead.2.1 80 = .ok (.aload_n 0, 1)) rfl rfl) ?_
    refine ai (p_getr (pc := 81) (RR_1557_0 hL) (by decide +kernel : decode k_R_tellHead.2.1 81 = .ok (.getfield 46, 3)) lg_12_46 (RC_0 hL).1) ?_
    refine ai (p_aload_n (pc := 84) (k := 1) (by decide +kernel : decode k_R_tellHead.2.1 84 = .ok (.aload_n 0, 1)) rfl rfl) ?_
    refine ai (r_getI (pc := 85) (by decide +kernel : decode k_R_tellHead.2.1 85 = .ok (.getfield 350, 3)) lg_12_350 (by decide) (RC_0 hL).1) ?_
    refine ai (p_aload_n (pc := 88) (k := 1) (by decide +kernel : decode k_R_tellHead.2.1 88 = .ok (.aload_n 0, 1)) rfl rfl) ?_
    refine ai (r_iconst (pc := 89) (by decide +kernel : decode k_R_tellHead.2.1 89 = .ok (.iconst 0, 1)) ic_0) ?_
    refine ai (r_bipush (pc := 90) (by decide +kernel : decode k_R_tellHead.2.1 90 = .ok (.bipush (7), 2)) (by decide : _ = (7 : Int32))) ?_
    obtain ⟨r27, m28, hr27, h⟩ := bn_some h
    have q29 := R_number_run hL hr27
    have c30 := (RC_0 hL).1
    have hL := q29.2
    refine ai (q_callV (pc := 92) (As := [.int 0, .int 7]) (st := [.int (mI m24 1588 0), .ref 10]) (st2 := [.int r27, .int (mI m24 1588 0), .ref 10]) (b := 0) rfl rfl (by decide +kernel : decode k_R_tellHead.2.1 92 = .ok (.invokevirtual 389, 3)) lc_12_389 mo_R_number ⟨Nat.le_of_ble_eq_true rfl, Nat.le_of_ble_eq_true rfl⟩ (Nat.le_of_ble_eq_true rfl) (Nat.le_of_ble_eq_true rfl) c30 q29.1) ?_
    obtain ⟨g31, h⟩ := gd_some h
    have c32 := (RC_10 hL).1
    have c33 := (RC_10 hL).2
    obtain ⟨m34, hm34, h⟩ := vb_some h
    have hL : RL m34 := by rw [hm34]; exact hL
    refine ai (p_iast (pc := 95) hm34 (by decide +kernel : decode k_R_tellHead.2.1 95 = .ok (.iastore, 1)) c32 c33 g31) ?_
    exact (ai (r_sub [1, 2, 0] rfl) (R_tellHead_96_run hL h))
set_option maxRecDepth 100000 in
set_option maxHeartbeats 4000000 in
theorem R_tellHead_22_run {x1 : Int32} {m m' : Mem} {r : Unit} (hL : RL m) (h : R_tellHead_22 x1 m = some (r, m')) : Run k_R_tellHead 22 [(0, .ref 0), (1, .int x1)] [] m none m' ∧ RL m' := by
  unfold R_tellHead_22 at h
  refine ai (p_aload_n (pc := 22) (k := 0) (by decide +kernel : decode k_R_tellHead.2.1 22 = .ok (.aload_n 0, 1)) rfl rfl) ?_
  refine ai (r_iconst (pc := 23) (by decide +kernel : decode k_R_tellHead.2.1 23 = .ok (.iconst 1, 1)) ic_1) ?_
  obtain ⟨r1, m2, hr1, h⟩ := bn_some h
  have q3 := R_fail_run hL hr1
  have c4 := (RC_0 hL).1
  have hL := q3.2
  refine ai (q_callV (pc := 24) (As := [.int 1]) (st := []) (st2 := []) (b := 0) rfl rfl (by decide +kernel : decode k_R_tellHead.2.1 24 = .ok (.invokevirtual 329, 3)) lc_12_329 mo_R_fail ⟨Nat.le_of_ble_eq_true rfl, Nat.le_of_ble_eq_true rfl⟩ (Nat.le_of_ble_eq_true rfl) (Nat.le_of_ble_eq_true rfl) c4 q3.1) ?_
  exact (R_tellHead_27_run hL h)
set_option maxRecDepth 100000 in
set_option maxHeartbeats 4000000 in
theorem R_tellHead_run {m m' : Mem} {r : Unit} (hL : RL m) (h : R_tellHead m = some (r, m')) : Run k_R_tellHead 0 [(0, .ref 0)] [] m none m' ∧ RL m' := by
  unfold R_tellHead at h
  refine ai (p_aload_n (pc := 0) (k := 0) (by decide +kernel : decode k_R_tellHead.2.1 0 = .ok (.aload_n 0, 1)) rfl rfl) ?_
  refine ai (p_getr (pc := 1) (RR_1541_0 hL) (by decide +kernel : decode k_R_tellHead.2.1 1 = .ok (.getfield 20, 3)) lg_12_20 (RC_0 hL).1) ?_
  refine ai (p_aload_n (pc := 4) (k := 0) (by decide +kernel : decode k_R_tellHead.2.1 4 = .ok (.aload_n 0, 1)) rfl rfl) ?_
  refine ai (r_getI (pc := 5) (by decide +kernel : decode k_R_tellHead.2.1 5 = .ok (.getfield 317, 3)) lg_12_317 (by decide) (RC_0 hL).1) ?_
  obtain ⟨g1, h⟩ := gd_some h
  refine ai (p_iald (pc := 8) (by decide +kernel : decode k_R_tellHead.2.1 8 = .ok (.iaload, 1)) (RC_3 hL).1 (RC_3 hL).2 g1) ?_
  refine ai (r_bipush (pc := 9) (by decide +kernel : decode k_R_tellHead.2.1 9 = .ok (.bipush (20), 2)) (by decide : _ = (20 : Int32))) ?_
  refine ai (r_isub (pc := 11) (by decide +kernel : decode k_R_tellHead.2.1 11 = .ok (.isub, 1))) ?_
  obtain ⟨v2, hv2, h⟩ := vb_some h
  refine ai (e_istore_n (pc := 12) hv2 (by decide +kernel : decode k_R_tellHead.2.1 12 = .ok (.istore_n 1, 1)) rfl (by decide) rfl) ?_
  refine ai (r_iload_n (pc := 13) (k := 0) (by decide +kernel : decode k_R_tellHead.2.1 13 = .ok (.iload_n 1, 1)) rfl rfl) ?_
  rcases ite_some h with ⟨c3, h⟩ | ⟨c3, h⟩
  · refine ai (r_if_lt_t (pc := 14) (tgt := 22) (by decide +kernel : decode k_R_tellHead.2.1 14 = .ok (.ifCond .lt (8), 3)) (by decide) c3) ?_
    exact (ai (r_sub [1, 0] rfl) (R_tellHead_22_run hL h))
  · refine ai (r_if_lt_f (pc := 14) 22 (by decide +kernel : decode k_R_tellHead.2.1 14 = .ok (.ifCond .lt (8), 3)) (by decide) c3) ?_
    refine ai (r_iload_n (pc := 17) (k := 0) (by decide +kernel : decode k_R_tellHead.2.1 17 = .ok (.iload_n 1, 1)) rfl rfl) ?_
    refine ai (r_iconst (pc := 18) (by decide +kernel : decode k_R_tellHead.2.1 18 = .ok (.iconst 3, 1)) ic_3) ?_
    rcases ite_some h with ⟨c4, h⟩ | ⟨c4, h⟩
    · refine ai (r_icmp_le_t (pc := 19) (tgt := 27) (by decide +kernel : decode k_R_tellHead.2.1 19 = .ok (.if_icmp .le (8), 3)) (by decide) c4) ?_
      exact (ai (r_sub [1, 0] rfl) (R_tellHead_27_run hL h))
    · refine ai (r_icmp_le_f (pc := 19) 27 (by decide +kernel : decode k_R_tellHead.2.1 19 = .ok (.if_icmp .le (8), 3)) (by decide) c4) ?_
      exact (ai (r_sub [1, 0] rfl) (R_tellHead_22_run hL h))
set_option maxRecDepth 100000 in
set_option maxHeartbeats 4000000 in
theorem R_emit_run {x1 : Int32} {x2 : Int32} {m m' : Mem} {r : Unit} (hL : RL m) (h : R_emit x1 x2 m = some (r, m')) : Run k_R_emit 0 [(0, .ref 0), (1, .int x1), (2, .int x2)] [] m none m' ∧ RL m' := by
  unfold R_emit at h
  refine ai (p_aload_n (pc := 0) (k := 0) (by decide +kernel : decode k_R_emit.2.1 0 = .ok (.aload_n 0, 1)) rfl rfl) ?_
  refine ai (p_getr (pc := 1) (RR_1582_0 hL) (by decide +kernel : decode k_R_emit.2.1 1 = .ok (.getfield 116, 3)) lg_12_116 (RC_0 hL).1) ?_
  refine ai (p_aload_n (pc := 4) (k := 0) (by decide +kernel : decode k_R_emit.2.1 4 = .ok (.aload_n 0, 1)) rfl rfl) ?_
  refine ai (r_getI (pc := 5) (by decide +kernel : decode k_R_emit.2.1 5 = .ok (.getfield 356, 3)) lg_12_356 (by decide) (RC_0 hL).1) ?_
  refine ai (r_iload_n (pc := 8) (k := 1) (by decide +kernel : decode k_R_emit.2.1 8 = .ok (.iload_n 1, 1)) rfl rfl) ?_
  obtain ⟨g1, h⟩ := gd_some h
  have c2 := (RC_33 hL).1
  have c3 := (RC_33 hL).2
  obtain ⟨m4, hm4, h⟩ := vb_some h
  have hL : RL m4 := by rw [hm4]; exact hL
  refine ai (p_iast (pc := 9) hm4 (by decide +kernel : decode k_R_emit.2.1 9 = .ok (.iastore, 1)) c2 c3 g1) ?_
  refine ai (p_aload_n (pc := 10) (k := 0) (by decide +kernel : decode k_R_emit.2.1 10 = .ok (.aload_n 0, 1)) rfl rfl) ?_
  refine ai (p_getr (pc := 11) (RR_1583_0 hL) (by decide +kernel : decode k_R_emit.2.1 11 = .ok (.getfield 119, 3)) lg_12_119 (RC_0 hL).1) ?_
  refine ai (p_aload_n (pc := 14) (k := 0) (by decide +kernel : decode k_R_emit.2.1 14 = .ok (.aload_n 0, 1)) rfl rfl) ?_
  refine ai (r_getI (pc := 15) (by decide +kernel : decode k_R_emit.2.1 15 = .ok (.getfield 356, 3)) lg_12_356 (by decide) (RC_0 hL).1) ?_
  refine ai (r_iload_n (pc := 18) (k := 2) (by decide +kernel : decode k_R_emit.2.1 18 = .ok (.iload_n 2, 1)) rfl rfl) ?_
  obtain ⟨g5, h⟩ := gd_some h
  have c6 := (RC_34 hL).1
  have c7 := (RC_34 hL).2
  obtain ⟨m8, hm8, h⟩ := vb_some h
  have hL : RL m8 := by rw [hm8]; exact hL
  refine ai (p_iast (pc := 19) hm8 (by decide +kernel : decode k_R_emit.2.1 19 = .ok (.iastore, 1)) c6 c7 g5) ?_
  refine ai (p_aload_n (pc := 20) (k := 0) (by decide +kernel : decode k_R_emit.2.1 20 = .ok (.aload_n 0, 1)) rfl rfl) ?_
  refine ai (r_dup (pc := 21) (by decide +kernel : decode k_R_emit.2.1 21 = .ok (.dup, 1)) (rfl)) ?_
  refine ai (r_getI (pc := 22) (by decide +kernel : decode k_R_emit.2.1 22 = .ok (.getfield 356, 3)) lg_12_356 (by decide) (RC_0 hL).1) ?_
  refine ai (r_iconst (pc := 25) (by decide +kernel : decode k_R_emit.2.1 25 = .ok (.iconst 1, 1)) ic_1) ?_
  refine ai (r_iadd (pc := 26) (by decide +kernel : decode k_R_emit.2.1 26 = .ok (.iadd, 1))) ?_
  have c9 := (RC_0 hL).1
  obtain ⟨m10, hm10, h⟩ := vb_some h
  have hL : RL m10 := by rw [hm10]; exact hL
  refine ai (p_putI (pc := 27) hm10 (by decide +kernel : decode k_R_emit.2.1 27 = .ok (.putfield 356, 3)) lp_12_356 c9) ?_
  cases h
  exact ⟨r_vret rfl (by decide +kernel : decode k_R_emit.2.1 30 = .ok (.return_, 1)), hL⟩
set_option maxRecDepth 100000 in
set_option maxHeartbeats 4000000 in
theorem R_unit_88_run {m m' : Mem} {r : Unit} (hL : RL m) (h : R_unit_88 m = some (r, m')) : Run k_R_unit 88 [(0, .ref 0)] [] m none m' ∧ RL m' := by
  unfold R_unit_88 at h
  refine ai (p_aload_n (pc := 88) (k := 0) (by decide +kernel : decode k_R_unit.2.1 88 = .ok (.aload_n 0, 1)) rfl rfl) ?_
  refine ai (r_iconst (pc := 89) (by decide +kernel : decode k_R_unit.2.1 89 = .ok (.iconst 1, 1)) ic_1) ?_
  obtain ⟨r1, m2, hr1, h⟩ := bn_some h
  have q3 := R_fail_run hL hr1
  have c4 := (RC_0 hL).1
  have hL := q3.2
  refine ai (q_callV (pc := 90) (As := [.int 1]) (st := []) (st2 := []) (b := 0) rfl rfl (by decide +kernel : decode k_R_unit.2.1 90 = .ok (.invokevirtual 329, 3)) lc_12_329 mo_R_fail ⟨Nat.le_of_ble_eq_true rfl, Nat.le_of_ble_eq_true rfl⟩ (Nat.le_of_ble_eq_true rfl) (Nat.le_of_ble_eq_true rfl) c4 q3.1) ?_
  cases h
  exact ⟨r_vret rfl (by decide +kernel : decode k_R_unit.2.1 93 = .ok (.return_, 1)), hL⟩
set_option maxRecDepth 100000 in
set_option maxHeartbeats 4000000 in
theorem R_unit_run {m m' : Mem} {r : Unit} (hL : RL m) (h : R_unit m = some (r, m')) : Run k_R_unit 0 [(0, .ref 0)] [] m none m' ∧ RL m' := by
  unfold R_unit at h
  refine ai (p_aload_n (pc := 0) (k := 0) (by decide +kernel : decode k_R_unit.2.1 0 = .ok (.aload_n 0, 1)) rfl rfl) ?_
  refine ai (r_iconst (pc := 1) (by decide +kernel : decode k_R_unit.2.1 1 = .ok (.iconst 2, 1)) ic_2) ?_
  obtain ⟨r1, m2, hr1, h⟩ := bn_some h
  have q3 := R_is_run hL hr1
  have c4 := (RC_0 hL).1
  have hL := q3.2
  refine ai (q_callV (pc := 2) (As := [.int 2]) (st := []) (st2 := [.int r1]) (b := 0) rfl rfl (by decide +kernel : decode k_R_unit.2.1 2 = .ok (.invokevirtual 332, 3)) lc_12_332 mo_R_is ⟨Nat.le_of_ble_eq_true rfl, Nat.le_of_ble_eq_true rfl⟩ (Nat.le_of_ble_eq_true rfl) (Nat.le_of_ble_eq_true rfl) c4 q3.1) ?_
  rcases ite_some h with ⟨c5, h⟩ | ⟨c5, h⟩
  · refine ai (r_if_eq_t (pc := 5) (tgt := 29) (by decide +kernel : decode k_R_unit.2.1 5 = .ok (.ifCond .eq (24), 3)) (by decide) c5) ?_
    refine ai (p_aload_n (pc := 29) (k := 0) (by decide +kernel : decode k_R_unit.2.1 29 = .ok (.aload_n 0, 1)) rfl rfl) ?_
    refine ai (r_getI (pc := 30) (by decide +kernel : decode k_R_unit.2.1 30 = .ok (.getfield 314, 3)) lg_12_314 (by decide) (RC_0 hL).1) ?_
    rcases ite_some h with ⟨c6, h⟩ | ⟨c6, h⟩
    · refine ai (r_if_ne_f (pc := 33) 88 (by decide +kernel : decode k_R_unit.2.1 33 = .ok (.ifCond .ne (55), 3)) (by decide) c6) ?_
      refine ai (p_aload_n (pc := 36) (k := 0) (by decide +kernel : decode k_R_unit.2.1 36 = .ok (.aload_n 0, 1)) rfl rfl) ?_
      refine ai (p_getr (pc := 37) (RR_1541_0 hL) (by decide +kernel : decode k_R_unit.2.1 37 = .ok (.getfield 20, 3)) lg_12_20 (RC_0 hL).1) ?_
      refine ai (p_aload_n (pc := 40) (k := 0) (by decide +kernel : decode k_R_unit.2.1 40 = .ok (.aload_n 0, 1)) rfl rfl) ?_
      refine ai (r_getI (pc := 41) (by decide +kernel : decode k_R_unit.2.1 41 = .ok (.getfield 317, 3)) lg_12_317 (by decide) (RC_0 hL).1) ?_
      obtain ⟨g7, h⟩ := gd_some h
      refine ai (p_iald (pc := 44) (by decide +kernel : decode k_R_unit.2.1 44 = .ok (.iaload, 1)) (RC_3 hL).1 (RC_3 hL).2 g7) ?_
      refine ai (r_bipush (pc := 45) (by decide +kernel : decode k_R_unit.2.1 45 = .ok (.bipush (48), 2)) (by decide : _ = (48 : Int32))) ?_
      rcases ite_some h with ⟨c8, h⟩ | ⟨c8, h⟩
      · refine ai (r_icmp_lt_t (pc := 47) (tgt := 88) (by decide +kernel : decode k_R_unit.2.1 47 = .ok (.if_icmp .lt (41), 3)) (by decide) c8) ?_
        exact (R_unit_88_run hL h)
      · refine ai (r_icmp_lt_f (pc := 47) 88 (by decide +kernel : decode k_R_unit.2.1 47 = .ok (.if_icmp .lt (41), 3)) (by decide) c8) ?_
        refine ai (p_aload_n (pc := 50) (k := 0) (by decide +kernel : decode k_R_unit.2.1 50 = .ok (.aload_n 0, 1)) rfl rfl) ?_
        refine ai (p_getr (pc := 51) (RR_1541_0 hL) (by decide +kernel : decode k_R_unit.2.1 51 = .ok (.getfield 20, 3)) lg_12_20 (RC_0 hL).1) ?_
        refine ai (p_aload_n (pc := 54) (k := 0) (by decide +kernel : decode k_R_unit.2.1 54 = .ok (.aload_n 0, 1)) rfl rfl) ?_
        refine ai (r_getI (pc := 55) (by decide +kernel : decode k_R_unit.2.1 55 = .ok (.getfield 317, 3)) lg_12_317 (by decide) (RC_0 hL).1) ?_
        obtain ⟨g9, h⟩ := gd_some h
        refine ai (p_iald (pc := 58) (by decide +kernel : decode k_R_unit.2.1 58 = .ok (.iaload, 1)) (RC_3 hL).1 (RC_3 hL).2 g9) ?_
        refine ai (r_bipush (pc := 59) (by decide +kernel : decode k_R_unit.2.1 59 = .ok (.bipush (59), 2)) (by decide : _ = (59 : Int32))) ?_
        rcases ite_some h with ⟨c10, h⟩ | ⟨c10, h⟩
        · refine ai (r_icmp_gt_t (pc := 61) (tgt := 88) (by decide +kernel : decode k_R_unit.2.1 61 = .ok (.if_icmp .gt (27), 3)) (by decide) c10) ?_
          exact (R_unit_88_run hL h)
        · refine ai (r_icmp_gt_f (pc := 61) 88 (by decide +kernel : decode k_R_unit.2.1 61 = .ok (.if_icmp .gt (27), 3)) (by decide) c10) ?_
          refine ai (p_aload_n (pc := 64) (k := 0) (by decide +kernel : decode k_R_unit.2.1 64 = .ok (.aload_n 0, 1)) rfl rfl) ?_
          refine ai (r_iconst (pc := 65) (by decide +kernel : decode k_R_unit.2.1 65 = .ok (.iconst 1, 1)) ic_1) ?_
          refine ai (p_aload_n (pc := 66) (k := 0) (by decide +kernel : decode k_R_unit.2.1 66 = .ok (.aload_n 0, 1)) rfl rfl) ?_
          refine ai (p_getr (pc := 67) (RR_1541_0 hL) (by decide +kernel : decode k_R_unit.2.1 67 = .ok (.getfield 20, 3)) lg_12_20 (RC_0 hL).1) ?_
          refine ai (p_aload_n (pc := 70) (k := 0) (by decide +kernel : decode k_R_unit.2.1 70 = .ok (.aload_n 0, 1)) rfl rfl) ?_
          refine ai (r_getI (pc := 71) (by decide +kernel : decode k_R_unit.2.1 71 = .ok (.getfield 317, 3)) lg_12_317 (by decide) (RC_0 hL).1) ?_
          obtain ⟨g11, h⟩ := gd_some h
          refine ai (p_iald (pc := 74) (by decide +kernel : decode k_R_unit.2.1 74 = .ok (.iaload, 1)) (RC_3 hL).1 (RC_3 hL).2 g11) ?_
          refine ai (r_bipush (pc := 75) (by decide +kernel : decode k_R_unit.2.1 75 = .ok (.bipush (48), 2)) (by decide : _ = (48 : Int32))) ?_
          refine ai (r_isub (pc := 77) (by decide +kernel : decode k_R_unit.2.1 77 = .ok (.isub, 1))) ?_
          obtain ⟨r12, m13, hr12, h⟩ := bn_some h
          have q14 := R_emit_run hL hr12
          have c15 := (RC_0 hL).1
          have hL := q14.2
          refine ai (q_callV (pc := 78) (As := [.int 1, .int ((aI m2 3 (ix (mI m2 1547 0))) - 48)]) (st := []) (st2 := []) (b := 0) rfl rfl (by decide +kernel : decode k_R_unit.2.1 78 = .ok (.invokevirtual 409, 3)) lc_12_409 mo_R_emit ⟨Nat.le_of_ble_eq_true rfl, Nat.le_of_ble_eq_true rfl⟩ (Nat.le_of_ble_eq_true rfl) (Nat.le_of_ble_eq_true rfl) c15 q14.1) ?_
          refine ai (p_aload_n (pc := 81) (k := 0) (by decide +kernel : decode k_R_unit.2.1 81 = .ok (.aload_n 0, 1)) rfl rfl) ?_
          obtain ⟨r16, m17, hr16, h⟩ := bn_some h
          have q18 := R_next_run hL hr16
          have c19 := (RC_0 hL).1
          have hL := q18.2
          refine ai (q_callV (pc := 82) (As := []) (st := []) (st2 := []) (b := 0) rfl rfl (by decide +kernel : decode k_R_unit.2.1 82 = .ok (.invokevirtual 335, 3)) lc_12_335 mo_R_next ⟨Nat.le_of_ble_eq_true rfl, Nat.le_of_ble_eq_true rfl⟩ (Nat.le_of_ble_eq_true rfl) (Nat.le_of_ble_eq_true rfl) c19 q18.1) ?_
          refine ai (r_goto (pc := 85) (tgt := 93) (by decide +kernel : decode k_R_unit.2.1 85 = .ok (.goto (8), 3)) (by decide)) ?_
          cases h
          exact ⟨r_vret rfl (by decide +kernel : decode k_R_unit.2.1 93 = .ok (.return_, 1)), hL⟩
    · refine ai (r_if_ne_t (pc := 33) (tgt := 88) (by decide +kernel : decode k_R_unit.2.1 33 = .ok (.ifCond .ne (55), 3)) (by decide) c6) ?_
      exact (R_unit_88_run hL h)
  · refine ai (r_if_eq_f (pc := 5) 29 (by decide +kernel : decode k_R_unit.2.1 5 = .ok (.ifCond .eq (24), 3)) (by decide) c5) ?_
    refine ai (p_aload_n (pc := 8) (k := 0) (by decide +kernel : decode k_R_unit.2.1 8 = .ok (.aload_n 0, 1)) rfl rfl) ?_
    refine ai (r_iconst (pc := 9) (by decide +kernel : decode k_R_unit.2.1 9 = .ok (.iconst 0, 1)) ic_0) ?_
    refine ai (p_aload_n (pc := 10) (k := 0) (by decide +kernel : decode k_R_unit.2.1 10 = .ok (.aload_n 0, 1)) rfl rfl) ?_
    refine ai (p_getr (pc := 11) (RR_1543_0 hL) (by decide +kernel : decode k_R_unit.2.1 11 = .ok (.getfield 27, 3)) lg_12_27 (RC_0 hL).1) ?_
    refine ai (p_aload_n (pc := 14) (k := 0) (by decide +kernel : decode k_R_unit.2.1 14 = .ok (.aload_n 0, 1)) rfl rfl) ?_
    refine ai (r_getI (pc := 15) (by decide +kernel : decode k_R_unit.2.1 15 = .ok (.getfield 317, 3)) lg_12_317 (by decide) (RC_0 hL).1) ?_
    obtain ⟨g20, h⟩ := gd_some h
    refine ai (p_iald (pc := 18) (by decide +kernel : decode k_R_unit.2.1 18 = .ok (.iaload, 1)) (RC_5 hL).1 (RC_5 hL).2 g20) ?_
    obtain ⟨r21, m22, hr21, h⟩ := bn_some h
    have q23 := R_emit_run hL hr21
    have c24 := (RC_0 hL).1
    have hL := q23.2
    refine ai (q_callV (pc := 19) (As := [.int 0, .int (aI m2 5 (ix (mI m2 1547 0)))]) (st := []) (st2 := []) (b := 0) rfl rfl (by decide +kernel : decode k_R_unit.2.1 19 = .ok (.invokevirtual 409, 3)) lc_12_409 mo_R_emit ⟨Nat.le_of_ble_eq_true rfl, Nat.le_of_ble_eq_true rfl⟩ (Nat.le_of_ble_eq_true rfl) (Nat.le_of_ble_eq_true rfl) c24 q23.1) ?_
    refine ai (p_aload_n (pc := 22) (k := 0) (by decide +kernel : decode k_R_unit.2.1 22 = .ok (.aload_n 0, 1)) rfl rfl) ?_
    obtain ⟨r25, m26, hr25, h⟩ := bn_some h
    have q27 := R_next_run hL hr25
    have c28 := (RC_0 hL).1
    have hL := q27.2
    refine ai (q_callV (pc := 23) (As := []) (st := []) (st2 := []) (b := 0) rfl rfl (by decide +kernel : decode k_R_unit.2.1 23 = .ok (.invokevirtual 335, 3)) lc_12_335 mo_R_next ⟨Nat.le_of_ble_eq_true rfl, Nat.le_of_ble_eq_true rfl⟩ (Nat.le_of_ble_eq_true rfl) (Nat.le_of_ble_eq_true rfl) c28 q27.1) ?_
    refine ai (r_goto (pc := 26) (tgt := 93) (by decide +kernel : decode k_R_unit.2.1 26 = .ok (.goto (67), 3)) (by decide)) ?_
    cases h
    exact ⟨r_vret rfl (by decide +kernel : decode k_R_unit.2.1 93 = .ok (.return_, 1)), hL⟩
set_option maxRecDepth 100000 in
set_option maxHeartbeats 4000000 in
theorem R_comesOut_84_run {k0 : Int32 → Mem → Option (Unit × Mem)} {x1 : Int32} {s0 : Int32} {m m' : Mem} {r : Unit} (hk0 : ∀ (x1 : Int32) (m : Mem) (r : Unit) (m' : Mem), RL m → k0 x1 m = some (r, m') → Run k_R_comesOut 0 [(0, .ref 0), (1, .int x1)] [] m none m' ∧ RL m') (hL : RL m) (h : R_comesOut_84 k0 x1 s0 m = some (r, m')) : Run k_R_comesOut 84 [(0, .ref 0), (1, .int x1)] [.int s0, .ref 0] m none m' ∧ RL m' := by
  unfold R_comesOut_84 at h
  refine ai (r_iconst (pc := 84) (by decide +kernel : decode k_R_comesOut.2.1 84 = .ok (.iconst 0, 1)) ic_0) ?_
  obtain ⟨r1, m2, hr1, h⟩ := bn_some h
  have q3 := R_emit_run hL hr1
  have c4 := (RC_0 hL).1
  have hL := q3.2
  refine ai (q_callV (pc := 85) (As := [.int s0, .int 0]) (st := []) (st2 := []) (b := 0) rfl rfl (by decide +kernel : decode k_R_comesOut.2.1 85 = .ok (.invokevirtual 409, 3)) lc_12_409 mo_R_emit ⟨Nat.le_of_ble_eq_true rfl, Nat.le_of_ble_eq_true rfl⟩ (Nat.le_of_ble_eq_true rfl) (Nat.le_of_ble_eq_true rfl) c4 q3.1) ?_
  refine ai (r_goto (pc := 88) (tgt := 0) (by decide +kernel : decode k_R_comesOut.2.1 88 = .ok (.goto (-88), 3)) (by decide)) ?_
  exact (hk0 x1 m2 _ _ hL h)
set_option maxRecDepth 100000 in
set_option maxHeartbeats 4000000 in
theorem R_comesOut_42_run {k0 : Int32 → Mem → Option (Unit × Mem)} {x1 : Int32} {x2 : Int32} {m m' : Mem} {r : Unit} (hk0 : ∀ (x1 : Int32) (m : Mem) (r : Unit) (m' : Mem), RL m → k0 x1 m = some (r, m') → Run k_R_comesOut 0 [(0, .ref 0), (1, .int x1)] [] m none m' ∧ RL m') (hL : RL m) (h : R_comesOut_42 k0 x1 x2 m = some (r, m')) : Run k_R_comesOut 42 [(0, .ref 0), (1, .int x1), (2, .int x2)] [] m none m' ∧ RL m' := by
  unfold R_comesOut_42 at h
  refine ai (p_aload_n (pc := 42) (k := 0) (by decide +kernel : decode k_R_comesOut.2.1 42 = .ok (.aload_n 0, 1)) rfl rfl) ?_
  refine ai (r_dup (pc := 43) (by decide +kernel : decode k_R_comesOut.2.1 43 = .ok (.dup, 1)) (rfl)) ?_
  refine ai (r_getI (pc := 44) (by decide +kernel : decode k_R_comesOut.2.1 44 = .ok (.getfield 412, 3)) lg_12_412 (by decide) (RC_0 hL).1) ?_
  refine ai (r_iconst (pc := 47) (by decide +kernel : decode k_R_comesOut.2.1 47 = .ok (.iconst 1, 1)) ic_1) ?_
  refine ai (r_isub (pc := 48) (by decide +kernel : decode k_R_comesOut.2.1 48 = .ok (.isub, 1))) ?_
  have c1 := (RC_0 hL).1
  obtain ⟨m2, hm2, h⟩ := vb_some h
  have hL : RL m2 := by rw [hm2]; exact hL
  refine ai (p_putI (pc := 49) hm2 (by decide +kernel : decode k_R_comesOut.2.1 49 = .ok (.putfield 412, 3)) lp_12_412 c1) ?_
  refine ai (p_aload_n (pc := 52) (k := 0) (by decide +kernel : decode k_R_comesOut.2.1 52 = .ok (.aload_n 0, 1)) rfl rfl) ?_
  refine ai (r_iload_n (pc := 53) (k := 2) (by decide +kernel : decode k_R_comesOut.2.1 53 = .ok (.iload_n 2, 1)) rfl rfl) ?_
  refine ai (r_bipush (pc := 54) (by decide +kernel : decode k_R_comesOut.2.1 54 = .ok (.bipush (8), 2)) (by decide : _ = (8 : Int32))) ?_
  rcases ite_some h with ⟨c3, h⟩ | ⟨c3, h⟩
  · refine ai (r_icmp_ne_f (pc := 56) 63 (by decide +kernel : decode k_R_comesOut.2.1 56 = .ok (.if_icmp .ne (7), 3)) (by decide) c3) ?_
    refine ai (r_iconst (pc := 59) (by decide +kernel : decode k_R_comesOut.2.1 59 = .ok (.iconst 2, 1)) ic_2) ?_
    refine ai (r_goto (pc := 60) (tgt := 84) (by decide +kernel : decode k_R_comesOut.2.1 60 = .ok (.goto (24), 3)) (by decide)) ?_
    exact (ai (r_sub [0, 1] rfl) (R_comesOut_84_run hk0 hL h))
  · refine ai (r_icmp_ne_t (pc := 56) (tgt := 63) (by decide +kernel : decode k_R_comesOut.2.1 56 = .ok (.if_icmp .ne (7), 3)) (by decide) c3) ?_
    refine ai (r_iload_n (pc := 63) (k := 2) (by decide +kernel : decode k_R_comesOut.2.1 63 = .ok (.iload_n 2, 1)) rfl rfl) ?_
    refine ai (r_bipush (pc := 64) (by decide +kernel : decode k_R_comesOut.2.1 64 = .ok (.bipush (9), 2)) (by decide : _ = (9 : Int32))) ?_
    rcases ite_some h with ⟨c4, h⟩ | ⟨c4, h⟩
    · refine ai (r_icmp_ne_f (pc := 66) 73 (by decide +kernel : decode k_R_comesOut.2.1 66 = .ok (.if_icmp .ne (7), 3)) (by decide) c4) ?_
      refine ai (r_iconst (pc := 69) (by decide +kernel : decode k_R_comesOut.2.1 69 = .ok (.iconst 3, 1)) ic_3) ?_
      refine ai (r_goto (pc := 70) (tgt := 84) (by decide +kernel : decode k_R_comesOut.2.1 70 = .ok (.goto (14), 3)) (by decide)) ?_
      exact (ai (r_sub [0, 1] rfl) (R_comesOut_84_run hk0 hL h))
    · refine ai (r_icmp_ne_t (pc := 66) (tgt := 73) (by decide +kernel : decode k_R_comesOut.2.1 66 = .ok (.if_icmp .ne (7), 3)) (by decide) c4) ?_
      refine ai (r_iload_n (pc := 73) (k := 2) (by decide +kernel : decode k_R_comesOut.2.1 73 = .ok (.iload_n 2, 1)) rfl rfl) ?_
      refine ai (r_bipush (pc := 74) (by decide +kernel : decode k_R_comesOut.2.1 74 = .ok (.bipush (10), 2)) (by decide : _ = (10 : Int32))) ?_
      rcases ite_some h with ⟨c5, h⟩ | ⟨c5, h⟩
      · refine ai (r_icmp_ne_f (pc := 76) 83 (by decide +kernel : decode k_R_comesOut.2.1 76 = .ok (.if_icmp .ne (7), 3)) (by decide) c5) ?_
        refine ai (r_iconst (pc := 79) (by decide +kernel : decode k_R_comesOut.2.1 79 = .ok (.iconst 4, 1)) ic_4) ?_
        refine ai (r_goto (pc := 80) (tgt := 84) (by decide +kernel : decode k_R_comesOut.2.1 80 = .ok (.goto (4), 3)) (by decide)) ?_
        exact (ai (r_sub [0, 1] rfl) (R_comesOut_84_run hk0 hL h))
      · refine ai (r_icmp_ne_t (pc := 76) (tgt := 83) (by decide +kernel : decode k_R_comesOut.2.1 76 = .ok (.if_icmp .ne (7), 3)) (by decide) c5) ?_
        refine ai (r_iconst (pc := 83) (by decide +kernel : decode k_R_comesOut.2.1 83 = .ok (.iconst 5, 1)) ic_5) ?_
        exact (ai (r_sub [0, 1] rfl) (R_comesOut_84_run hk0 hL h))
set_option maxRecDepth 100000 in
set_option maxHeartbeats 4000000 in
theorem R_comesOut_0_run {n : Nat} {x1 : Int32} {m m' : Mem} {r : Unit} (hL : RL m) (h : R_comesOut_0 n x1 m = some (r, m')) : Run k_R_comesOut 0 [(0, .ref 0), (1, .int x1)] [] m none m' ∧ RL m' := by
  induction n generalizing x1 m r m' with
  | zero => exact absurd h (by simp [R_comesOut_0])
  | succ n ih =>
    rw [R_comesOut_0.eq_2] at h
    refine ai (p_aload_n (pc := 0) (k := 0) (by decide +kernel : decode k_R_comesOut.2.1 0 = .ok (.aload_n 0, 1)) rfl rfl) ?_
    refine ai (r_getI (pc := 1) (by decide +kernel : decode k_R_comesOut.2.1 1 = .ok (.getfield 412, 3)) lg_12_412 (by decide) (RC_0 hL).1) ?_
    rcases ite_some h with ⟨c1, h⟩ | ⟨c1, h⟩
    · refine ai (r_if_le_t (pc := 4) (tgt := 91) (by decide +kernel : decode k_R_comesOut.2.1 4 = .ok (.ifCond .le (87), 3)) (by decide) c1) ?_
      cases h
      exact ⟨r_vret rfl (by decide +kernel : decode k_R_comesOut.2.1 91 = .ok (.return_, 1)), hL⟩
    · refine ai (r_if_le_f (pc := 4) 91 (by decide +kernel : decode k_R_comesOut.2.1 4 = .ok (.ifCond .le (87), 3)) (by decide) c1) ?_
      refine ai (p_aload_n (pc := 7) (k := 0) (by decide +kernel : decode k_R_comesOut.2.1 7 = .ok (.aload_n 0, 1)) rfl rfl) ?_
      refine ai (p_getr (pc := 8) (RR_1589_0 hL) (by decide +kernel : decode k_R_comesOut.2.1 8 = .ok (.getfield 125, 3)) lg_12_125 (RC_0 hL).1) ?_
      refine ai (p_aload_n (pc := 11) (k := 0) (by decide +kernel : decode k_R_comesOut.2.1 11 = .ok (.aload_n 0, 1)) rfl rfl) ?_
      refine ai (r_getI (pc := 12) (by decide +kernel : decode k_R_comesOut.2.1 12 = .ok (.getfield 412, 3)) lg_12_412 (by decide) (RC_0 hL).1) ?_
      refine ai (r_iconst (pc := 15) (by decide +kernel : decode k_R_comesOut.2.1 15 = .ok (.iconst 1, 1)) ic_1) ?_
      refine ai (r_isub (pc := 16) (by decide +kernel : decode k_R_comesOut.2.1 16 = .ok (.isub, 1))) ?_
      obtain ⟨g2, h⟩ := gd_some h
      refine ai (p_iald (pc := 17) (by decide +kernel : decode k_R_comesOut.2.1 17 = .ok (.iaload, 1)) (RC_36 hL).1 (RC_36 hL).2 g2) ?_
      obtain ⟨v3, hv3, h⟩ := vb_some h
      refine ai (e_istore_n (pc := 18) hv3 (by decide +kernel : decode k_R_comesOut.2.1 18 = .ok (.istore_n 2, 1)) rfl (by decide) rfl) ?_
      refine ai (r_iload_n (pc := 19) (k := 0) (by decide +kernel : decode k_R_comesOut.2.1 19 = .ok (.iload_n 2, 1)) rfl rfl) ?_
      refine ai (r_bipush (pc := 20) (by decide +kernel : decode k_R_comesOut.2.1 20 = .ok (.bipush (6), 2)) (by decide : _ = (6 : Int32))) ?_
      rcases ite_some h with ⟨c4, h⟩ | ⟨c4, h⟩
      · refine ai (r_icmp_eq_t (pc := 22) (tgt := 41) (by decide +kernel : decode k_R_comesOut.2.1 22 = .ok (.if_icmp .eq (19), 3)) (by decide) c4) ?_
        cases h
        exact ⟨r_vret rfl (by decide +kernel : decode k_R_comesOut.2.1 41 = .ok (.return_, 1)), hL⟩
      · refine ai (r_icmp_eq_f (pc := 22) 41 (by decide +kernel : decode k_R_comesOut.2.1 22 = .ok (.if_icmp .eq (19), 3)) (by decide) c4) ?_
        refine ai (r_iload_n (pc := 25) (k := 2) (by decide +kernel : decode k_R_comesOut.2.1 25 = .ok (.iload_n 1, 1)) rfl rfl) ?_
        rcases ite_some h with ⟨c5, h⟩ | ⟨c5, h⟩
        · refine ai (r_if_eq_t (pc := 26) (tgt := 42) (by decide +kernel : decode k_R_comesOut.2.1 26 = .ok (.ifCond .eq (16), 3)) (by decide) c5) ?_
          exact (ai (r_sub [1, 2, 0] rfl) (R_comesOut_42_run (fun _ _ _ _ q1 q3 => ih q1 q3) hL h))
        · refine ai (r_if_eq_f (pc := 26) 42 (by decide +kernel : decode k_R_comesOut.2.1 26 = .ok (.ifCond .eq (16), 3)) (by decide) c5) ?_
          refine ai (r_iload_n (pc := 29) (k := 0) (by decide +kernel : decode k_R_comesOut.2.1 29 = .ok (.iload_n 2, 1)) rfl rfl) ?_
          refine ai (r_bipush (pc := 30) (by decide +kernel : decode k_R_comesOut.2.1 30 = .ok (.bipush (8), 2)) (by decide : _ = (8 : Int32))) ?_
          rcases ite_some h with ⟨c6, h⟩ | ⟨c6, h⟩
          · refine ai (r_icmp_eq_t (pc := 32) (tgt := 41) (by decide +kernel : decode k_R_comesOut.2.1 32 = .ok (.if_icmp .eq (9), 3)) (by decide) c6) ?_
            cases h
            exact ⟨r_vret rfl (by decide +kernel : decode k_R_comesOut.2.1 41 = .ok (.return_, 1)), hL⟩
          · refine ai (r_icmp_eq_f (pc := 32) 41 (by decide +kernel : decode k_R_comesOut.2.1 32 = .ok (.if_icmp .eq (9), 3)) (by decide) c6) ?_
            refine ai (r_iload_n (pc := 35) (k := 0) (by decide +kernel : decode k_R_comesOut.2.1 35 = .ok (.iload_n 2, 1)) rfl rfl) ?_
            refine ai (r_bipush (pc := 36) (by decide +kernel : decode k_R_comesOut.2.1 36 = .ok (.bipush (9), 2)) (by decide : _ = (9 : Int32))) ?_
            rcases ite_some h with ⟨c7, h⟩ | ⟨c7, h⟩
            · refine ai (r_icmp_ne_f (pc := 38) 42 (by decide +kernel : decode k_R_comesOut.2.1 38 = .ok (.if_icmp .ne (4), 3)) (by decide) c7) ?_
              cases h
              exact ⟨r_vret rfl (by decide +kernel : decode k_R_comesOut.2.1 41 = .ok (.return_, 1)), hL⟩
            · refine ai (r_icmp_ne_t (pc := 38) (tgt := 42) (by decide +kernel : decode k_R_comesOut.2.1 38 = .ok (.if_icmp .ne (4), 3)) (by decide) c7) ?_
              exact (ai (r_sub [1, 2, 0] rfl) (R_comesOut_42_run (fun _ _ _ _ q1 q3 => ih q1 q3) hL h))
theorem R_comesOut_run {x1 : Int32} {m m' : Mem} {r : Unit} (hL : RL m) (h : R_comesOut x1 m = some (r, m')) : Run k_R_comesOut 0 [(0, .ref 0), (1, .int x1)] [] m none m' ∧ RL m' := (R_comesOut_0_run hL h)
