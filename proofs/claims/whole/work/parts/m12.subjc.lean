/-! written by gen/emit.py -/
set_option maxRecDepth 100000 in
set_option maxHeartbeats 4000000 in
theorem P_Ledger_lastClaim_69_run {k6 : Int32 → Int32 → Int32 → Int32 → Int32 → Mem → Option (Int32 × Mem)} {x1 : Int32} {x2 : Int32} {x3 : Int32} {x4 : Int32} {x5 : Int32} {m m' : Mem} {r : Int32} (hk6 : ∀ (x1 : Int32) (x2 : Int32) (x3 : Int32) (x4 : Int32) (x5 : Int32) (m : Mem) (r : Int32) (m' : Mem), PL m → k6 x1 x2 x3 x4 x5 m = some (r, m') → Run k_P_Ledger_lastClaim 6 [(0, .ref 13), (1, .int x1), (2, .int x2), (3, .int x3), (4, .int x4), (5, .int x5)] [] m (some (.int r)) m' ∧ PL m') (hL : PL m) (h : P_Ledger_lastClaim_69 k6 x1 x2 x3 x4 x5 m = some (r, m')) : Run k_P_Ledger_lastClaim 69 [(0, .ref 13), (1, .int x1), (2, .int x2), (3, .int x3), (4, .int x4), (5, .int x5)] [] m (some (.int r)) m' ∧ PL m' := by
  unfold P_Ledger_lastClaim_69 at h
  obtain ⟨v1, hv1, h⟩ := vb_some h
  refine ai (e_iinc (pc := 69) (k := 5) hv1 ic_1 (by decide +kernel : decode k_P_Ledger_lastClaim.2.1 69 = .ok (.iinc 5 (1), 3)) rfl (by decide) rfl) ?_
  refine ai (r_goto (pc := 72) (tgt := 6) (by decide +kernel : decode k_P_Ledger_lastClaim.2.1 72 = .ok (.goto (-66), 3)) (by decide)) ?_
  exact (ai (r_sub [1, 2, 3, 4, 5, 0] rfl) (hk6 x1 x2 x3 x4 v1 m _ _ hL h))
set_option maxRecDepth 100000 in
set_option maxHeartbeats 4000000 in
theorem P_Ledger_lastClaim_6_run {n : Nat} {x1 : Int32} {x2 : Int32} {x3 : Int32} {x4 : Int32} {x5 : Int32} {m m' : Mem} {r : Int32} (hL : PL m) (h : P_Ledger_lastClaim_6 n x1 x2 x3 x4 x5 m = some (r, m')) : Run k_P_Ledger_lastClaim 6 [(0, .ref 13), (1, .int x1), (2, .int x2), (3, .int x3), (4, .int x4), (5, .int x5)] [] m (some (.int r)) m' ∧ PL m' := by
  induction n generalizing x1 x2 x3 x4 x5 m r m' with
  | zero => exact absurd h (by simp [P_Ledger_lastClaim_6])
  | succ n ih =>
    rw [P_Ledger_lastClaim_6.eq_2] at h
    refine ai (r_iload (pc := 6) (k := 5) (by decide +kernel : decode k_P_Ledger_lastClaim.2.1 6 = .ok (.iload 5, 2)) rfl) ?_
    refine ai (p_aload_n (pc := 8) (k := 0) (by decide +kernel : decode k_P_Ledger_lastClaim.2.1 8 = .ok (.aload_n 0, 1)) rfl rfl) ?_
    refine ai (r_getI (pc := 9) (by decide +kernel : decode k_P_Ledger_lastClaim.2.1 9 = .ok (.getfield 23, 3)) lg_4_23 (by decide) (PC_13 hL).1) ?_
    rcases ite_some h with ⟨c1, h⟩ | ⟨c1, h⟩
    · refine ai (r_icmp_ge_t (pc := 12) (tgt := 75) (by decide +kernel : decode k_P_Ledger_lastClaim.2.1 12 = .ok (.if_icmp .ge (63), 3)) (by decide) c1) ?_
      refine ai (r_iload (pc := 75) (k := 4) (by decide +kernel : decode k_P_Ledger_lastClaim.2.1 75 = .ok (.iload 4, 2)) rfl) ?_
      cases h
      exact ⟨r_iret rfl (by decide +kernel : decode k_P_Ledger_lastClaim.2.1 77 = .ok (.ireturn, 1)), hL⟩
    · refine ai (r_icmp_ge_f (pc := 12) 75 (by decide +kernel : decode k_P_Ledger_lastClaim.2.1 12 = .ok (.if_icmp .ge (63), 3)) (by decide) c1) ?_
      refine ai (p_aload_n (pc := 15) (k := 0) (by decide +kernel : decode k_P_Ledger_lastClaim.2.1 15 = .ok (.aload_n 0, 1)) rfl rfl) ?_
      refine ai (p_getr (pc := 16) (PR_512_13 hL) (by decide +kernel : decode k_P_Ledger_lastClaim.2.1 16 = .ok (.getfield 11, 3)) lg_4_11 (PC_13 hL).1) ?_
      refine ai (r_iload (pc := 19) (k := 5) (by decide +kernel : decode k_P_Ledger_lastClaim.2.1 19 = .ok (.iload 5, 2)) rfl) ?_
      obtain ⟨g2, h⟩ := gd_some h
      obtain ⟨a3, o4, h⟩ := gs_some h
      refine ai (p_aaldr (pc := 21) (j := 2) (by decide) o4 (by decide +kernel : decode k_P_Ledger_lastClaim.2.1 21 = .ok (.aaload, 1)) (PC_14 hL).1 (PC_14 hL).2 g2) ?_
      obtain ⟨t5, h⟩ := gt_some h
      refine ai (r_getI (pc := 22) (by decide +kernel : decode k_P_Ledger_lastClaim.2.1 22 = .ok (.getfield 58, 3)) lg_4_58 (by decide) t5) ?_
      refine ai (r_iload_n (pc := 25) (k := 1) (by decide +kernel : decode k_P_Ledger_lastClaim.2.1 25 = .ok (.iload_n 1, 1)) rfl rfl) ?_
      rcases ite_some h with ⟨c6, h⟩ | ⟨c6, h⟩
      · refine ai (r_icmp_ne_f (pc := 26) 69 (by decide +kernel : decode k_P_Ledger_lastClaim.2.1 26 = .ok (.if_icmp .ne (43), 3)) (by decide) c6) ?_
        refine ai (p_aload_n (pc := 29) (k := 0) (by decide +kernel : decode k_P_Ledger_lastClaim.2.1 29 = .ok (.aload_n 0, 1)) rfl rfl) ?_
        refine ai (p_getr (pc := 30) (PR_512_13 hL) (by decide +kernel : decode k_P_Ledger_lastClaim.2.1 30 = .ok (.getfield 11, 3)) lg_4_11 (PC_13 hL).1) ?_
        refine ai (r_iload (pc := 33) (k := 5) (by decide +kernel : decode k_P_Ledger_lastClaim.2.1 33 = .ok (.iload 5, 2)) rfl) ?_
        obtain ⟨g7, h⟩ := gd_some h
        obtain ⟨a8, o9, h⟩ := gs_some h
        refine ai (p_aaldr (pc := 35) (j := 2) (by decide) o9 (by decide +kernel : decode k_P_Ledger_lastClaim.2.1 35 = .ok (.aaload, 1)) (PC_14 hL).1 (PC_14 hL).2 g7) ?_
        obtain ⟨t10, h⟩ := gt_some h
        refine ai (r_getI (pc := 36) (by decide +kernel : decode k_P_Ledger_lastClaim.2.1 36 = .ok (.getfield 59, 3)) lg_4_59 (by decide) t10) ?_
        refine ai (r_iload_n (pc := 39) (k := 2) (by decide +kernel : decode k_P_Ledger_lastClaim.2.1 39 = .ok (.iload_n 2, 1)) rfl rfl) ?_
        rcases ite_some h with ⟨c11, h⟩ | ⟨c11, h⟩
        · refine ai (r_icmp_ne_f (pc := 40) 69 (by decide +kernel : decode k_P_Ledger_lastClaim.2.1 40 = .ok (.if_icmp .ne (29), 3)) (by decide) c11) ?_
          refine ai (p_aload_n (pc := 43) (k := 0) (by decide +kernel : decode k_P_Ledger_lastClaim.2.1 43 = .ok (.aload_n 0, 1)) rfl rfl) ?_
          refine ai (p_getr (pc := 44) (PR_512_13 hL) (by decide +kernel : decode k_P_Ledger_lastClaim.2.1 44 = .ok (.getfield 11, 3)) lg_4_11 (PC_13 hL).1) ?_
          refine ai (r_iload (pc := 47) (k := 5) (by decide +kernel : decode k_P_Ledger_lastClaim.2.1 47 = .ok (.iload 5, 2)) rfl) ?_
          obtain ⟨g12, h⟩ := gd_some h
          obtain ⟨a13, o14, h⟩ := gs_some h
          refine ai (p_aaldr (pc := 49) (j := 2) (by decide) o14 (by decide +kernel : decode k_P_Ledger_lastClaim.2.1 49 = .ok (.aaload, 1)) (PC_14 hL).1 (PC_14 hL).2 g12) ?_
          obtain ⟨t15, h⟩ := gt_some h
          refine ai (r_getI (pc := 50) (by decide +kernel : decode k_P_Ledger_lastClaim.2.1 50 = .ok (.getfield 62, 3)) lg_4_62 (by decide) t15) ?_
          refine ai (r_iload_n (pc := 53) (k := 3) (by decide +kernel : decode k_P_Ledger_lastClaim.2.1 53 = .ok (.iload_n 3, 1)) rfl rfl) ?_
          rcases ite_some h with ⟨c16, h⟩ | ⟨c16, h⟩
          · refine ai (r_icmp_ne_f (pc := 54) 69 (by decide +kernel : decode k_P_Ledger_lastClaim.2.1 54 = .ok (.if_icmp .ne (15), 3)) (by decide) c16) ?_
            refine ai (p_aload_n (pc := 57) (k := 0) (by decide +kernel : decode k_P_Ledger_lastClaim.2.1 57 = .ok (.aload_n 0, 1)) rfl rfl) ?_
            refine ai (p_getr (pc := 58) (PR_512_13 hL) (by decide +kernel : decode k_P_Ledger_lastClaim.2.1 58 = .ok (.getfield 11, 3)) lg_4_11 (PC_13 hL).1) ?_
            refine ai (r_iload (pc := 61) (k := 5) (by decide +kernel : decode k_P_Ledger_lastClaim.2.1 61 = .ok (.iload 5, 2)) rfl) ?_
            obtain ⟨g17, h⟩ := gd_some h
            obtain ⟨a18, o19, h⟩ := gs_some h
            refine ai (p_aaldr (pc := 63) (j := 2) (by decide) o19 (by decide +kernel : decode k_P_Ledger_lastClaim.2.1 63 = .ok (.aaload, 1)) (PC_14 hL).1 (PC_14 hL).2 g17) ?_
            obtain ⟨t20, h⟩ := gt_some h
            refine ai (r_getI (pc := 64) (by decide +kernel : decode k_P_Ledger_lastClaim.2.1 64 = .ok (.getfield 68, 3)) lg_4_68 (by decide) t20) ?_
            obtain ⟨v21, hv21, h⟩ := vb_some h
            refine ai (e_istore (pc := 67) hv21 (by decide +kernel : decode k_P_Ledger_lastClaim.2.1 67 = .ok (.istore 4, 2)) (by decide) rfl) ?_
            exact (ai (r_sub [1, 2, 3, 4, 0, 5] rfl) (P_Ledger_lastClaim_69_run (fun _ _ _ _ _ _ _ _ q1 q3 => ih q1 q3) hL h))
          · refine ai (r_icmp_ne_t (pc := 54) (tgt := 69) (by decide +kernel : decode k_P_Ledger_lastClaim.2.1 54 = .ok (.if_icmp .ne (15), 3)) (by decide) c16) ?_
            exact (P_Ledger_lastClaim_69_run (fun _ _ _ _ _ _ _ _ q1 q3 => ih q1 q3) hL h)
        · refine ai (r_icmp_ne_t (pc := 40) (tgt := 69) (by decide +kernel : decode k_P_Ledger_lastClaim.2.1 40 = .ok (.if_icmp .ne (29), 3)) (by decide) c11) ?_
          exact (P_Ledger_lastClaim_69_run (fun _ _ _ _ _ _ _ _ q1 q3 => ih q1 q3) hL h)
      · refine ai (r_icmp_ne_t (pc := 26) (tgt := 69) (by decide +kernel : decode k_P_Ledger_lastClaim.2.1 26 = .ok (.if_icmp .ne (43), 3)) (by decide) c6) ?_
        exact (P_Ledger_lastClaim_69_run (fun _ _ _ _ _ _ _ _ q1 q3 => ih q1 q3) hL h)
set_option maxRecDepth 100000 in
set_option maxHeartbeats 4000000 in
theorem P_Ledger_lastClaim_run {x1 : Int32} {x2 : Int32} {x3 : Int32} {m m' : Mem} {r : Int32} (hL : PL m) (h : P_Ledger_lastClaim x1 x2 x3 m = some (r, m')) : Run k_P_Ledger_lastClaim 0 [(0, .ref 13), (1, .int x1), (2, .int x2), (3, .int x3)] [] m (some (.int r)) m' ∧ PL m' := by
  unfold P_Ledger_lastClaim at h
  refine ai (r_iconst (pc := 0) (by decide +kernel : decode k_P_Ledger_lastClaim.2.1 0 = .ok (.iconst (-1), 1)) ic_m1) ?_
  refine ai (e_istore (pc := 1) rfl (by decide +kernel : decode k_P_Ledger_lastClaim.2.1 1 = .ok (.istore 4, 2)) (by decide) rfl) ?_
  refine ai (r_iconst (pc := 3) (by decide +kernel : decode k_P_Ledger_lastClaim.2.1 3 = .ok (.iconst 0, 1)) ic_0) ?_
  refine ai (e_istore (pc := 4) rfl (by decide +kernel : decode k_P_Ledger_lastClaim.2.1 4 = .ok (.istore 5, 2)) (by decide) rfl) ?_
  exact (ai (r_sub [2, 3, 4, 5, 1, 0] rfl) (P_Ledger_lastClaim_6_run hL h))
set_option maxRecDepth 100000 in
set_option maxHeartbeats 4000000 in
theorem P_Parser_setAmbit_run {x1 : Option Nat} {x2 : Int32} {m m' : Mem} {r : Unit} (hL : PL m) (h : P_Parser_setAmbit x1 x2 m = some (r, m')) : Run k_P_Parser_setAmbit 0 [(0, .ref 22), (1, va_rf x1), (2, .int x2)] [] m none m' ∧ PL m' := by
  unfold P_Parser_setAmbit at h
  refine ai (p_aload_n (pc := 0) (k := 0) (by decide +kernel : decode k_P_Parser_setAmbit.2.1 0 = .ok (.aload_n 0, 1)) rfl rfl) ?_
  refine ai (p_getr (pc := 1) (PR_769_22 hL) (by decide +kernel : decode k_P_Parser_setAmbit.2.1 1 = .ok (.getfield 29, 3)) lg_6_29 (PC_22 hL).1) ?_
  refine ai (r_bipush (pc := 4) (by decide +kernel : decode k_P_Parser_setAmbit.2.1 4 = .ok (.bipush (7), 2)) (by decide : _ = (7 : Int32))) ?_
  refine ai (r_iload_n (pc := 6) (k := 2) (by decide +kernel : decode k_P_Parser_setAmbit.2.1 6 = .ok (.iload_n 2, 1)) rfl rfl) ?_
  obtain ⟨a1, rfl, hha1⟩ := gs_some h
  have h := hha1
  refine ai (p_aload_n (pc := 7) (k := 1) (by decide +kernel : decode k_P_Parser_setAmbit.2.1 7 = .ok (.aload_n 1, 1)) rfl rfl) ?_
  obtain ⟨t2, h⟩ := gt_some h
  refine ai (r_getI (pc := 8) (by decide +kernel : decode k_P_Parser_setAmbit.2.1 8 = .ok (.getfield 117, 3)) lg_6_117 (by decide) t2) ?_
  obtain ⟨r3, m4, hr3, h⟩ := bn_some h
  have q5 := P_Ledger_lastClaim_run hL hr3
  have c6 := (PC_13 hL).1
  have hL := q5.2
  refine ai (q_callV (pc := 11) (As := [.int 7, .int x2, .int (mI m 258 a1)]) (st := []) (st2 := [.int r3]) (b := 13) rfl rfl (by decide +kernel : decode k_P_Parser_setAmbit.2.1 11 = .ok (.invokevirtual 120, 3)) lc_6_120 mo_P_Ledger_lastClaim ⟨Nat.le_of_ble_eq_true rfl, Nat.le_of_ble_eq_true rfl⟩ (Nat.le_of_ble_eq_true rfl) (Nat.le_of_ble_eq_true rfl) c6 q5.1) ?_
  refine ai (e_istore_n (pc := 14) rfl (by decide +kernel : decode k_P_Parser_setAmbit.2.1 14 = .ok (.istore_n 3, 1)) rfl (by decide) rfl) ?_
  refine ai (p_aload_n (pc := 15) (k := 1) (by decide +kernel : decode k_P_Parser_setAmbit.2.1 15 = .ok (.aload_n 0, 1)) rfl rfl) ?_
  refine ai (p_getr (pc := 16) (PR_769_22 hL) (by decide +kernel : decode k_P_Parser_setAmbit.2.1 16 = .ok (.getfield 29, 3)) lg_6_29 (PC_22 hL).1) ?_
  refine ai (r_bipush (pc := 19) (by decide +kernel : decode k_P_Parser_setAmbit.2.1 19 = .ok (.bipush (8), 2)) (by decide : _ = (8 : Int32))) ?_
  refine ai (r_iload_n (pc := 21) (k := 3) (by decide +kernel : decode k_P_Parser_setAmbit.2.1 21 = .ok (.iload_n 2, 1)) rfl rfl) ?_
  refine ai (p_aload_n (pc := 22) (k := 2) (by decide +kernel : decode k_P_Parser_setAmbit.2.1 22 = .ok (.aload_n 1, 1)) rfl rfl) ?_
  obtain ⟨t7, h⟩ := gt_some h
  refine ai (r_getI (pc := 23) (by decide +kernel : decode k_P_Parser_setAmbit.2.1 23 = .ok (.getfield 117, 3)) lg_6_117 (by decide) t7) ?_
  obtain ⟨r8, m9, hr8, h⟩ := bn_some h
  have q10 := P_Ledger_lastClaim_run hL hr8
  have c11 := (PC_13 hL).1
  have hL := q10.2
  refine ai (q_callV (pc := 26) (As := [.int 8, .int x2, .int (mI m4 258 a1)]) (st := []) (st2 := [.int r8]) (b := 13) rfl rfl (by decide +kernel : decode k_P_Parser_setAmbit.2.1 26 = .ok (.invokevirtual 120, 3)) lc_6_120 mo_P_Ledger_lastClaim ⟨Nat.le_of_ble_eq_true rfl, Nat.le_of_ble_eq_true rfl⟩ (Nat.le_of_ble_eq_true rfl) (Nat.le_of_ble_eq_true rfl) c11 q10.1) ?_
  refine ai (e_istore (pc := 29) rfl (by decide +kernel : decode k_P_Parser_setAmbit.2.1 29 = .ok (.istore 4, 2)) (by decide) rfl) ?_
  refine ai (r_iload_n (pc := 31) (k := 1) (by decide +kernel : decode k_P_Parser_setAmbit.2.1 31 = .ok (.iload_n 3, 1)) rfl rfl) ?_
  refine ai (r_iconst (pc := 32) (by decide +kernel : decode k_P_Parser_setAmbit.2.1 32 = .ok (.iconst (-1), 1)) ic_m1) ?_
  rcases ite_some h with ⟨c12, h⟩ | ⟨c12, h⟩
  · refine ai (r_icmp_eq_t (pc := 33) (tgt := 62) (by decide +kernel : decode k_P_Parser_setAmbit.2.1 33 = .ok (.if_icmp .eq (29), 3)) (by decide) c12) ?_
    cases h
    exact ⟨r_vret rfl (by decide +kernel : decode k_P_Parser_setAmbit.2.1 62 = .ok (.return_, 1)), hL⟩
  · refine ai (r_icmp_eq_f (pc := 33) 62 (by decide +kernel : decode k_P_Parser_setAmbit.2.1 33 = .ok (.if_icmp .eq (29), 3)) (by decide) c12) ?_
    refine ai (r_iload (pc := 36) (k := 0) (by decide +kernel : decode k_P_Parser_setAmbit.2.1 36 = .ok (.iload 4, 2)) rfl) ?_
    refine ai (r_iconst (pc := 38) (by decide +kernel : decode k_P_Parser_setAmbit.2.1 38 = .ok (.iconst (-1), 1)) ic_m1) ?_
    rcases ite_some h with ⟨c13, h⟩ | ⟨c13, h⟩
    · refine ai (r_icmp_eq_t (pc := 39) (tgt := 62) (by decide +kernel : decode k_P_Parser_setAmbit.2.1 39 = .ok (.if_icmp .eq (23), 3)) (by decide) c13) ?_
      cases h
      exact ⟨r_vret rfl (by decide +kernel : decode k_P_Parser_setAmbit.2.1 62 = .ok (.return_, 1)), hL⟩
    · refine ai (r_icmp_eq_f (pc := 39) 62 (by decide +kernel : decode k_P_Parser_setAmbit.2.1 39 = .ok (.if_icmp .eq (23), 3)) (by decide) c13) ?_
      refine ai (p_aload_n (pc := 42) (k := 3) (by decide +kernel : decode k_P_Parser_setAmbit.2.1 42 = .ok (.aload_n 1, 1)) rfl rfl) ?_
      refine ai (r_iload_n (pc := 43) (k := 1) (by decide +kernel : decode k_P_Parser_setAmbit.2.1 43 = .ok (.iload_n 3, 1)) rfl rfl) ?_
      refine ai (r_iload (pc := 44) (k := 0) (by decide +kernel : decode k_P_Parser_setAmbit.2.1 44 = .ok (.iload 4, 2)) rfl) ?_
      refine ai (r_mmin (pc := 46) (by decide +kernel : decode k_P_Parser_setAmbit.2.1 46 = .ok (.invokestatic 124, 3)) lm_6_124 lm_mmin_st lm_math lm_mmin_cd ⟨by decide, by decide⟩ (Nat.le_of_ble_eq_true rfl)) ?_
      obtain ⟨t14, h⟩ := gt_some h
      obtain ⟨m15, hm15, h⟩ := vb_some h
      have hL : PL m15 := by rw [hm15]; exact hL
      have t16 : mT m15 a1 = 3 := by rw [hm15]; exact t14
      refine ai (p_putI (pc := 49) hm15 (by decide +kernel : decode k_P_Parser_setAmbit.2.1 49 = .ok (.putfield 130, 3)) lp_6_130 t14) ?_
      refine ai (p_aload_n (pc := 52) (k := 3) (by decide +kernel : decode k_P_Parser_setAmbit.2.1 52 = .ok (.aload_n 1, 1)) rfl rfl) ?_
      refine ai (r_iload_n (pc := 53) (k := 1) (by decide +kernel : decode k_P_Parser_setAmbit.2.1 53 = .ok (.iload_n 3, 1)) rfl rfl) ?_
      refine ai (r_iload (pc := 54) (k := 0) (by decide +kernel : decode k_P_Parser_setAmbit.2.1 54 = .ok (.iload 4, 2)) rfl) ?_
      refine ai (r_mmax (pc := 56) (by decide +kernel : decode k_P_Parser_setAmbit.2.1 56 = .ok (.invokestatic 133, 3)) lm_6_133 lm_mmax_st lm_math lm_mmax_cd ⟨by decide, by decide⟩ (Nat.le_of_ble_eq_true rfl)) ?_
      obtain ⟨m17, hm17, h⟩ := vb_some h
      have hL : PL m17 := by rw [hm17]; exact hL
      have t18 : mT m17 a1 = 3 := by rw [hm17]; exact t16
      refine ai (p_putI (pc := 59) hm17 (by decide +kernel : decode k_P_Parser_setAmbit.2.1 59 = .ok (.putfield 136, 3)) lp_6_136 t16) ?_
      cases h
      exact ⟨r_vret rfl (by decide +kernel : decode k_P_Parser_setAmbit.2.1 62 = .ok (.return_, 1)), hL⟩
set_option maxRecDepth 100000 in
set_option maxHeartbeats 4000000 in
theorem P_Text_init_69_run {a0 : Nat} {s0 : Int32} {m m' : Mem} {r : Unit} (hL : PL m) (ht : mT m a0 = 11) (h : P_Text_init_69 a0 s0 m = some (r, m')) : Run k_P_Text_init 69 [(0, .ref a0)] [.int s0] m none m' ∧ PL m' := by
  unfold P_Text_init_69 at h
  refine ai (e_istore (pc := 69) rfl (by decide +kernel : decode k_P_Text_init.2.1 69 = .ok (.istore 8, 2)) (by decide) rfl) ?_
  refine ai (p_aload_n (pc := 71) (k := 1) (by decide +kernel : decode k_P_Text_init.2.1 71 = .ok (.aload_n 0, 1)) rfl rfl) ?_
  refine ai (r_iload (pc := 72) (k := 0) (by decide +kernel : decode k_P_Text_init.2.1 72 = .ok (.iload 8, 2)) rfl) ?_
  obtain ⟨g1, h⟩ := gd_some h
  obtain ⟨m2, hm2, h⟩ := vb_some h
  have hL : PL m2 := by rw [hm2]; exact PL.nw hL
  refine ai (p_newR (pc := 74) (j := 0) hm2 (by decide) (by decide +kernel : decode k_P_Text_init.2.1 74 = .ok (.anewarray 41, 3)) la_10_41 g1) ?_
  have t4 : mT m2 (mC m) = 36 := by rw [hm2]; exact up1_eq
  obtain ⟨t5, h⟩ := gt_some h
  obtain ⟨m6, hm6, h⟩ := vb_some h
  have hL : PL m6 := by rw [hm6]; exact PL.sR (by decide) hL
  have t7 : mT m6 (mC m) = 36 := by rw [hm6]; exact t4
  have t8 : mT m6 a0 = 11 := by rw [hm6]; exact t5
  refine ai (p_putr (pc := 77) hm6 (by decide +kernel : decode k_P_Text_init.2.1 77 = .ok (.putfield 43, 3)) lp_10_43 t5) ?_
  refine ai (p_aload_n (pc := 80) (k := 1) (by decide +kernel : decode k_P_Text_init.2.1 80 = .ok (.aload_n 0, 1)) rfl rfl) ?_
  refine ai (r_iload (pc := 81) (k := 0) (by decide +kernel : decode k_P_Text_init.2.1 81 = .ok (.iload 8, 2)) rfl) ?_
  obtain ⟨g9, h⟩ := gd_some h
  obtain ⟨m10, hm10, h⟩ := vb_some h
  have hL : PL m10 := by rw [hm10]; exact PL.nw hL
  refine ai (p_newR (pc := 83) (j := 0) hm10 (by decide) (by decide +kernel : decode k_P_Text_init.2.1 83 = .ok (.anewarray 41, 3)) la_10_41 g9) ?_
  have t13 : mT m10 (mC m6) = 36 := by rw [hm10]; exact up1_eq
  obtain ⟨t14, h⟩ := gt_some h
  obtain ⟨m15, hm15, h⟩ := vb_some h
  have hL : PL m15 := by rw [hm15]; exact PL.sR (by decide) hL
  have t16 : mT m15 (mC m6) = 36 := by rw [hm15]; exact t13
  have t17 : mT m15 a0 = 11 := by rw [hm15]; exact t14
  refine ai (p_putr (pc := 86) hm15 (by decide +kernel : decode k_P_Text_init.2.1 86 = .ok (.putfield 46, 3)) lp_10_46 t14) ?_
  refine ai (p_aload_n (pc := 89) (k := 1) (by decide +kernel : decode k_P_Text_init.2.1 89 = .ok (.aload_n 0, 1)) rfl rfl) ?_
  refine ai (r_iload (pc := 90) (k := 0) (by decide +kernel : decode k_P_Text_init.2.1 90 = .ok (.iload 8, 2)) rfl) ?_
  obtain ⟨g18, h⟩ := gd_some h
  obtain ⟨m19, hm19, h⟩ := vb_some h
  have hL : PL m19 := by rw [hm19]; exact PL.nw hL
  refine ai (p_newI (pc := 92) hm19 (by decide +kernel : decode k_P_Text_init.2.1 92 = .ok (.newarray .int, 2)) lw_arr_int g18) ?_
  have t22 : mT m19 (mC m15) = 32 := by rw [hm19]; exact up1_eq
  obtain ⟨t23, h⟩ := gt_some h
  obtain ⟨m24, hm24, h⟩ := vb_some h
  have hL : PL m24 := by rw [hm24]; exact PL.sR (by decide) hL
  have t25 : mT m24 (mC m15) = 32 := by rw [hm24]; exact t22
  have t26 : mT m24 a0 = 11 := by rw [hm24]; exact t23
  refine ai (p_putr (pc := 94) hm24 (by decide +kernel : decode k_P_Text_init.2.1 94 = .ok (.putfield 49, 3)) lp_10_49 t23) ?_
  refine ai (p_aload_n (pc := 97) (k := 1) (by decide +kernel : decode k_P_Text_init.2.1 97 = .ok (.aload_n 0, 1)) rfl rfl) ?_
  refine ai (r_iload (pc := 98) (k := 0) (by decide +kernel : decode k_P_Text_init.2.1 98 = .ok (.iload 8, 2)) rfl) ?_
  obtain ⟨g27, h⟩ := gd_some h
  obtain ⟨m28, hm28, h⟩ := vb_some h
  have hL : PL m28 := by rw [hm28]; exact PL.nw hL
  refine ai (p_newI (pc := 100) hm28 (by decide +kernel : decode k_P_Text_init.2.1 100 = .ok (.newarray .int, 2)) lw_arr_int g27) ?_
  have t31 : mT m28 (mC m24) = 32 := by rw [hm28]; exact up1_eq
  obtain ⟨t32, h⟩ := gt_some h
  obtain ⟨m33, hm33, h⟩ := vb_some h
  have hL : PL m33 := by rw [hm33]; exact PL.sR (by decide) hL
  have t34 : mT m33 (mC m24) = 32 := by rw [hm33]; exact t31
  have t35 : mT m33 a0 = 11 := by rw [hm33]; exact t32
  refine ai (p_putr (pc := 102) hm33 (by decide +kernel : decode k_P_Text_init.2.1 102 = .ok (.putfield 53, 3)) lp_10_53 t32) ?_
  cases h
  exact ⟨r_vret rfl (by decide +kernel : decode k_P_Text_init.2.1 105 = .ok (.return_, 1)), hL⟩
set_option maxRecDepth 100000 in
set_option maxHeartbeats 4000000 in
theorem P_Text_init_63_run {a0 : Nat} {m m' : Mem} {r : Unit} (hL : PL m) (ht : mT m a0 = 11) (h : P_Text_init_63 a0 m = some (r, m')) : Run k_P_Text_init 63 [(0, .ref a0)] [] m none m' ∧ PL m' := by
  unfold P_Text_init_63 at h
  refine ai (r_bipush (pc := 63) (by decide +kernel : decode k_P_Text_init.2.1 63 = .ok (.bipush (60), 2)) (by decide : _ = (60 : Int32))) ?_
  refine ai (r_goto (pc := 65) (tgt := 69) (by decide +kernel : decode k_P_Text_init.2.1 65 = .ok (.goto (4), 3)) (by decide)) ?_
  exact (P_Text_init_69_run hL ht h)
set_option maxRecDepth 100000 in
set_option maxHeartbeats 4000000 in
theorem P_Text_init_run {a0 : Nat} {x1 : Int32} {x2 : Int32} {x3 : Int32} {x4 : Int32} {x5 : Int32} {x6 : Option Nat} {x7 : Option Nat} {m m' : Mem} {r : Unit} (hL : PL m) (ht : mT m a0 = 11) (h : P_Text_init a0 x1 x2 x3 x4 x5 x6 x7 m = some (r, m')) : Run k_P_Text_init 0 [(0, .ref a0), (1, .int x1), (2, .int x2), (3, .int x3), (4, .int x4), (5, .int x5), (6, va_rf x6), (7, va_rf x7)] [] m none m' ∧ PL m' := by
  unfold P_Text_init at h
  refine ai (p_aload_n (pc := 0) (k := 0) (by decide +kernel : decode k_P_Text_init.2.1 0 = .ok (.aload_n 0, 1)) rfl rfl) ?_
  refine ai (r_objI (pc := 1) (by decide +kernel : decode k_P_Text_init.2.1 1 = .ok (.invokespecial 3, 3)) lo_10_3 lo_inst lo_code (Nat.le_of_ble_eq_true rfl) ⟨by decide, by decide⟩) ?_
  refine ai (p_aload_n (pc := 4) (k := 0) (by decide +kernel : decode k_P_Text_init.2.1 4 = .ok (.aload_n 0, 1)) rfl rfl) ?_
  refine ai (r_bipush (pc := 5) (by decide +kernel : decode k_P_Text_init.2.1 5 = .ok (.bipush (51), 2)) (by decide : _ = (51 : Int32))) ?_
  obtain ⟨m1, hm1, h⟩ := vb_some h
  have hL : PL m1 := by rw [hm1]; exact hL
  have t2 : mT m1 a0 = 11 := by rw [hm1]; exact ht
  refine ai (p_putI (pc := 7) hm1 (by decide +kernel : decode k_P_Text_init.2.1 7 = .ok (.putfield 9, 3)) lp_10_9 ht) ?_
  refine ai (p_aload_n (pc := 10) (k := 0) (by decide +kernel : decode k_P_Text_init.2.1 10 = .ok (.aload_n 0, 1)) rfl rfl) ?_
  refine ai (r_iconst (pc := 11) (by decide +kernel : decode k_P_Text_init.2.1 11 = .ok (.iconst 1, 1)) ic_1) ?_
  obtain ⟨m3, hm3, h⟩ := vb_some h
  have hL : PL m3 := by rw [hm3]; exact hL
  have t4 : mT m3 a0 = 11 := by rw [hm3]; exact t2
  refine ai (p_putI (pc := 12) hm3 (by decide +kernel : decode k_P_Text_init.2.1 12 = .ok (.putfield 15, 3)) lp_10_15 t2) ?_
  refine ai (p_aload_n (pc := 15) (k := 0) (by decide +kernel : decode k_P_Text_init.2.1 15 = .ok (.aload_n 0, 1)) rfl rfl) ?_
  refine ai (r_iload_n (pc := 16) (k := 1) (by decide +kernel : decode k_P_Text_init.2.1 16 = .ok (.iload_n 1, 1)) rfl rfl) ?_
  obtain ⟨m5, hm5, h⟩ := vb_some h
  have hL : PL m5 := by rw [hm5]; exact hL
  have t6 : mT m5 a0 = 11 := by rw [hm5]; exact t4
  refine ai (p_putI (pc := 17) hm5 (by decide +kernel : decode k_P_Text_init.2.1 17 = .ok (.putfield 18, 3)) lp_10_18 t4) ?_
  refine ai (p_aload_n (pc := 20) (k := 0) (by decide +kernel : decode k_P_Text_init.2.1 20 = .ok (.aload_n 0, 1)) rfl rfl) ?_
  refine ai (r_iload_n (pc := 21) (k := 2) (by decide +kernel : decode k_P_Text_init.2.1 21 = .ok (.iload_n 2, 1)) rfl rfl) ?_
  obtain ⟨m7, hm7, h⟩ := vb_some h
  have hL : PL m7 := by rw [hm7]; exact hL
  have t8 : mT m7 a0 = 11 := by rw [hm7]; exact t6
  refine ai (p_putI (pc := 22) hm7 (by decide +kernel : decode k_P_Text_init.2.1 22 = .ok (.putfield 21, 3)) lp_10_21 t6) ?_
  refine ai (p_aload_n (pc := 25) (k := 0) (by decide +kernel : decode k_P_Text_init.2.1 25 = .ok (.aload_n 0, 1)) rfl rfl) ?_
  refine ai (r_iload_n (pc := 26) (k := 3) (by decide +kernel : decode k_P_Text_init.2.1 26 = .ok (.iload_n 3, 1)) rfl rfl) ?_
  obtain ⟨m9, hm9, h⟩ := vb_some h
  have hL : PL m9 := by rw [hm9]; exact hL
  have t10 : mT m9 a0 = 11 := by rw [hm9]; exact t8
  refine ai (p_putI (pc := 27) hm9 (by decide +kernel : decode k_P_Text_init.2.1 27 = .ok (.putfield 24, 3)) lp_10_24 t8) ?_
  refine ai (p_aload_n (pc := 30) (k := 0) (by decide +kernel : decode k_P_Text_init.2.1 30 = .ok (.aload_n 0, 1)) rfl rfl) ?_
  refine ai (r_iload (pc := 31) (k := 4) (by decide +kernel : decode k_P_Text_init.2.1 31 = .ok (.iload 4, 2)) rfl) ?_
  obtain ⟨m11, hm11, h⟩ := vb_some h
  have hL : PL m11 := by rw [hm11]; exact hL
  have t12 : mT m11 a0 = 11 := by rw [hm11]; exact t10
  refine ai (p_putI (pc := 33) hm11 (by decide +kernel : decode k_P_Text_init.2.1 33 = .ok (.putfield 27, 3)) lp_10_27 t10) ?_
  refine ai (p_aload_n (pc := 36) (k := 0) (by decide +kernel : decode k_P_Text_init.2.1 36 = .ok (.aload_n 0, 1)) rfl rfl) ?_
  refine ai (r_iload (pc := 37) (k := 5) (by decide +kernel : decode k_P_Text_init.2.1 37 = .ok (.iload 5, 2)) rfl) ?_
  obtain ⟨m13, hm13, h⟩ := vb_some h
  have hL : PL m13 := by rw [hm13]; exact hL
  have t14 : mT m13 a0 = 11 := by rw [hm13]; exact t12
  refine ai (p_putI (pc := 39) hm13 (by decide +kernel : decode k_P_Text_init.2.1 39 = .ok (.putfield 30, 3)) lp_10_30 t12) ?_
  refine ai (p_aload_n (pc := 42) (k := 0) (by decide +kernel : decode k_P_Text_init.2.1 42 = .ok (.aload_n 0, 1)) rfl rfl) ?_
  refine ai (r_aload (pc := 43) (k := 6) (by decide +kernel : decode k_P_Text_init.2.1 43 = .ok (.aload 6, 2)) rfl) ?_
  obtain ⟨m15, hm15, h⟩ := vb_some h
  have hL : PL m15 := by rw [hm15]; exact PL.sR (by decide) hL
  have t16 : mT m15 a0 = 11 := by rw [hm15]; exact t14
  refine ai (p_putR (pc := 45) hm15 (by decide +kernel : decode k_P_Text_init.2.1 45 = .ok (.putfield 33, 3)) lp_10_33 t14) ?_
  refine ai (p_aload_n (pc := 48) (k := 0) (by decide +kernel : decode k_P_Text_init.2.1 48 = .ok (.aload_n 0, 1)) rfl rfl) ?_
  refine ai (r_aload (pc := 49) (k := 7) (by decide +kernel : decode k_P_Text_init.2.1 49 = .ok (.aload 7, 2)) rfl) ?_
  obtain ⟨m17, hm17, h⟩ := vb_some h
  have hL : PL m17 := by rw [hm17]; exact PL.sR (by decide) hL
  have t18 : mT m17 a0 = 11 := by rw [hm17]; exact t16
  refine ai (p_putR (pc := 51) hm17 (by decide +kernel : decode k_P_Text_init.2.1 51 = .ok (.putfield 37, 3)) lp_10_37 t16) ?_
  refine ai (r_iload_n (pc := 54) (k := 1) (by decide +kernel : decode k_P_Text_init.2.1 54 = .ok (.iload_n 1, 1)) rfl rfl) ?_
  rcases ite_some h with ⟨c19, h⟩ | ⟨c19, h⟩
  · refine ai (r_if_eq_t (pc := 55) (tgt := 63) (by decide +kernel : decode k_P_Text_init.2.1 55 = .ok (.ifCond .eq (8), 3)) (by decide) c19) ?_
    exact (ai (r_sub [0] rfl) (P_Text_init_63_run hL t18 h))
  · refine ai (r_if_eq_f (pc := 55) 63 (by decide +kernel : decode k_P_Text_init.2.1 55 = .ok (.ifCond .eq (8), 3)) (by decide) c19) ?_
    refine ai (r_iload_n (pc := 58) (k := 1) (by decide +kernel : decode k_P_Text_init.2.1 58 = .ok (.iload_n 1, 1)) rfl rfl) ?_
    refine ai (r_iconst (pc := 59) (by decide +kernel : decode k_P_Text_init.2.1 59 = .ok (.iconst 3, 1)) ic_3) ?_
    rcases ite_some h with ⟨c20, h⟩ | ⟨c20, h⟩
    · refine ai (r_icmp_ne_f (pc := 60) 68 (by decide +kernel : decode k_P_Text_init.2.1 60 = .ok (.if_icmp .ne (8), 3)) (by decide) c20) ?_
      exact (ai (r_sub [0] rfl) (P_Text_init_63_run hL t18 h))
    · refine ai (r_icmp_ne_t (pc := 60) (tgt := 68) (by decide +kernel : decode k_P_Text_init.2.1 60 = .ok (.if_icmp .ne (8), 3)) (by decide) c20) ?_
      refine ai (r_iconst (pc := 68) (by decide +kernel : decode k_P_Text_init.2.1 68 = .ok (.iconst 0, 1)) ic_0) ?_
      exact (ai (r_sub [0] rfl) (P_Text_init_69_run hL t18 h))
set_option maxRecDepth 100000 in
set_option maxHeartbeats 4000000 in
theorem P_Parser_made_76_run {k33 : Option Nat → Option Nat → Int32 → Mem → Option (Option Nat × Mem)} {x1 : Option Nat} {x2 : Option Nat} {x3 : Int32} {m m' : Mem} {r : Option Nat} (hk33 : ∀ (x1 : Option Nat) (x2 : Option Nat) (x3 : Int32) (m : Mem) (r : Option Nat) (m' : Mem), PL m → k33 x1 x2 x3 m = some (r, m') → Run k_P_Parser_made 33 [(0, .ref 22), (1, va_rf x1), (2, va_rf x2), (3, .int x3)] [] m (some (va_rf r)) m' ∧ PL m') (hL : PL m) (h : P_Parser_made_76 k33 x1 x2 x3 m = some (r, m')) : Run k_P_Parser_made 76 [(0, .ref 22), (1, va_rf x1), (2, va_rf x2), (3, .int x3)] [] m (some (va_rf r)) m' ∧ PL m' := by
  unfold P_Parser_made_76 at h
  obtain ⟨v1, hv1, h⟩ := vb_some h
  refine ai (e_iinc (pc := 76) (k := 3) hv1 ic_1 (by decide +kernel : decode k_P_Parser_made.2.1 76 = .ok (.iinc 3 (1), 3)) rfl (by decide) (by simp [f1, vrc, vrs, cti, ctr, ctl, ctn, cta]) (ls2 := [(3, .int v1), (0, .ref 22), (1, va_rf x1), (2, va_rf x2)])) ?_
  refine ai (r_goto (pc := 79) (tgt := 33) (by decide +kernel : decode k_P_Parser_made.2.1 79 = .ok (.goto (-46), 3)) (by decide)) ?_
  exact (ai (r_sub [1, 2, 3, 0] rfl) (hk33 x1 x2 v1 m _ _ hL h))
set_option maxRecDepth 100000 in
set_option maxHeartbeats 4000000 in
theorem P_Parser_made_82_run {x1 : Option Nat} {x2 : Option Nat} {m m' : Mem} {r : Option Nat} (hL : PL m) (h : P_Parser_made_82 x1 x2 m = some (r, m')) : Run k_P_Parser_made 82 [(0, .ref 22), (1, va_rf x1), (2, va_rf x2)] [] m (some (va_rf r)) m' ∧ PL m' := by
  unfold P_Parser_made_82 at h
  obtain ⟨m1, hm1, h⟩ := vb_some h
  have hL : PL m1 := by rw [hm1]; exact PL.nw hL
  refine ai (p_new (pc := 82) hm1 (by decide +kernel : decode k_P_Parser_made.2.1 82 = .ok (.new 100, 3)) ln_6_100) ?_
  have t2 : mT m1 (mC m) = 11 := by rw [hm1]; exact up1_eq
  refine ai (r_dup (pc := 85) (by decide +kernel : decode k_P_Parser_made.2.1 85 = .ok (.dup, 1)) (rfl)) ?_
  refine ai (p_aload_n (pc := 86) (k := 0) (by decide +kernel : decode k_P_Parser_made.2.1 86 = .ok (.aload_n 0, 1)) rfl rfl) ?_
  refine ai (r_getI (pc := 87) (by decide +kernel : decode k_P_Parser_made.2.1 87 = .ok (.getfield 84, 3)) lg_6_84 (by decide) (PC_22 hL).1) ?_
  refine ai (p_aload_n (pc := 90) (k := 0) (by decide +kernel : decode k_P_Parser_made.2.1 90 = .ok (.aload_n 0, 1)) rfl rfl) ?_
  refine ai (p_getr (pc := 91) (PR_769_22 hL) (by decide +kernel : decode k_P_Parser_made.2.1 91 = .ok (.getfield 29, 3)) lg_6_29 (PC_22 hL).1) ?_
  refine ai (r_getI (pc := 94) (by decide +kernel : decode k_P_Parser_made.2.1 94 = .ok (.getfield 108, 3)) lg_6_108 (by decide) (PC_13 hL).1) ?_
  refine ai (p_aload_n (pc := 97) (k := 0) (by decide +kernel : decode k_P_Parser_made.2.1 97 = .ok (.aload_n 0, 1)) rfl rfl) ?_
  refine ai (r_getI (pc := 98) (by decide +kernel : decode k_P_Parser_made.2.1 98 = .ok (.getfield 87, 3)) lg_6_87 (by decide) (PC_22 hL).1) ?_
  refine ai (p_aload_n (pc := 101) (k := 0) (by decide +kernel : decode k_P_Parser_made.2.1 101 = .ok (.aload_n 0, 1)) rfl rfl) ?_
  refine ai (r_getI (pc := 102) (by decide +kernel : decode k_P_Parser_made.2.1 102 = .ok (.getfield 77, 3)) lg_6_77 (by decide) (PC_22 hL).1) ?_
  refine ai (p_aload_n (pc := 105) (k := 0) (by decide +kernel : decode k_P_Parser_made.2.1 105 = .ok (.aload_n 0, 1)) rfl rfl) ?_
  refine ai (r_getI (pc := 106) (by decide +kernel : decode k_P_Parser_made.2.1 106 = .ok (.getfield 111, 3)) lg_6_111 (by decide) (PC_22 hL).1) ?_
  refine ai (r_aload_n (pc := 109) (k := 1) (by decide +kernel : decode k_P_Parser_made.2.1 109 = .ok (.aload_n 1, 1)) rfl rfl) ?_
  refine ai (r_aload_n (pc := 110) (k := 2) (by decide +kernel : decode k_P_Parser_made.2.1 110 = .ok (.aload_n 2, 1)) rfl rfl) ?_
  obtain ⟨r3, m4, hr3, h⟩ := bn_some h
  have q5 := P_Text_init_run hL t2 hr3
  have hL := q5.2
  refine ai (q_callI (pc := 111) (As := [.int (mI m1 783 22), .int (mI m1 514 13), .int (mI m1 784 22), .int (mI m1 785 22), .int (mI m1 786 22), va_rf x1, va_rf x2]) (st := [.ref (mC m)]) (st2 := [.ref (mC m)]) (b := mC m) (by simp [lv_args, vrc, vrs, cti, ctr, ctl, ctn, cta]) rfl (by decide +kernel : decode k_P_Parser_made.2.1 111 = .ok (.invokespecial 114, 3)) lc_6_114 mo_P_Text_init ⟨Nat.le_of_ble_eq_true rfl, Nat.le_of_ble_eq_true rfl⟩ (by simp [lg_sl, vrc, vrs, cti, ctr, ctl, ctn, cta, k_P_Text_init]) (Nat.le_of_ble_eq_true rfl) q5.1) ?_
  cases h
  exact ⟨r_aret (o := some (mC m)) rfl (Or.inl ⟨_, rfl⟩) (by decide +kernel : decode k_P_Parser_made.2.1 114 = .ok (.areturn, 1)), hL⟩
set_option maxRecDepth 100000 in
set_option maxHeartbeats 4000000 in
theorem P_Parser_made_33_run {n : Nat} {x1 : Option Nat} {x2 : Option Nat} {x3 : Int32} {m m' : Mem} {r : Option Nat} (hL : PL m) (h : P_Parser_made_33 n x1 x2 x3 m = some (r, m')) : Run k_P_Parser_made 33 [(0, .ref 22), (1, va_rf x1), (2, va_rf x2), (3, .int x3)] [] m (some (va_rf r)) m' ∧ PL m' := by
  induction n generalizing x1 x2 x3 m r m' with
  | zero => exact absurd h (by simp [P_Parser_made_33])
  | succ n ih =>
    rw [P_Parser_made_33.eq_2] at h
    refine ai (r_iload_n (pc := 33) (k := 3) (by decide +kernel : decode k_P_Parser_made.2.1 33 = .ok (.iload_n 3, 1)) rfl rfl) ?_
    refine ai (p_aload_n (pc := 34) (k := 0) (by decide +kernel : decode k_P_Parser_made.2.1 34 = .ok (.aload_n 0, 1)) rfl rfl) ?_
    refine ai (r_getI (pc := 35) (by decide +kernel : decode k_P_Parser_made.2.1 35 = .ok (.getfield 74, 3)) lg_6_74 (by decide) (PC_22 hL).1) ?_
    rcases ite_some h with ⟨c1, h⟩ | ⟨c1, h⟩
    · refine ai (r_icmp_ge_t (pc := 38) (tgt := 82) (by decide +kernel : decode k_P_Parser_made.2.1 38 = .ok (.if_icmp .ge (44), 3)) (by decide) c1) ?_
      exact (ai (r_sub [0, 1, 2] rfl) (P_Parser_made_82_run hL h))
    · refine ai (r_icmp_ge_f (pc := 38) 82 (by decide +kernel : decode k_P_Parser_made.2.1 38 = .ok (.if_icmp .ge (44), 3)) (by decide) c1) ?_
      obtain ⟨a2, rfl, hha2⟩ := gs_some h
      have h := hha2
      refine ai (p_aload_n (pc := 41) (k := 2) (by decide +kernel : decode k_P_Parser_made.2.1 41 = .ok (.aload_n 2, 1)) rfl rfl) ?_
      refine ai (r_iload_n (pc := 42) (k := 3) (by decide +kernel : decode k_P_Parser_made.2.1 42 = .ok (.iload_n 3, 1)) rfl rfl) ?_
      refine ai (p_aload_n (pc := 43) (k := 0) (by decide +kernel : decode k_P_Parser_made.2.1 43 = .ok (.aload_n 0, 1)) rfl rfl) ?_
      refine ai (p_getr (pc := 44) (PR_781_22 hL) (by decide +kernel : decode k_P_Parser_made.2.1 44 = .ok (.getfield 21, 3)) lg_6_21 (PC_22 hL).1) ?_
      refine ai (r_iload_n (pc := 47) (k := 3) (by decide +kernel : decode k_P_Parser_made.2.1 47 = .ok (.iload_n 3, 1)) rfl rfl) ?_
      obtain ⟨g3, h⟩ := gd_some h
      refine ai (p_aald (pc := 48) (j := 0) (by decide) (by decide +kernel : decode k_P_Parser_made.2.1 48 = .ok (.aaload, 1)) (PC_24 hL).1 (PC_24 hL).2 g3) ?_
      obtain ⟨t4, h⟩ := gt_some h
      obtain ⟨g5, h⟩ := gd_some h
      obtain ⟨g6, h⟩ := go_some h
      obtain ⟨m7, hm7, h⟩ := vb_some h
      have hL : PL m7 := by rw [hm7]; exact hL
      have t8 : mT m7 a2 = 36 := by rw [hm7]; exact t4
      refine ai (p_aast (pc := 49) (j := 0) (by decide) hm7 (by decide +kernel : decode k_P_Parser_made.2.1 49 = .ok (.aastore, 1)) t4 rfl g5 g6) ?_
      refine ai (r_aload_n (pc := 50) (k := 1) (by decide +kernel : decode k_P_Parser_made.2.1 50 = .ok (.aload_n 1, 1)) rfl rfl) ?_
      rcases ite_some h with ⟨c9, h⟩ | ⟨c9, h⟩
      · refine ai (d_ifnull_t (pc := 51) (tgt := 76) c9 (by decide +kernel : decode k_P_Parser_made.2.1 51 = .ok (.ifnull (25), 3)) (by decide)) ?_
        exact (P_Parser_made_76_run (fun _ _ _ _ _ _ q1 q3 => ih q1 q3) hL h)
      · refine ai (d_ifnull_f (pc := 51) c9 (by decide +kernel : decode k_P_Parser_made.2.1 51 = .ok (.ifnull (25), 3))) ?_
        refine ai (p_aload_n (pc := 54) (k := 2) (by decide +kernel : decode k_P_Parser_made.2.1 54 = .ok (.aload_n 2, 1)) rfl rfl) ?_
        refine ai (r_iload_n (pc := 55) (k := 3) (by decide +kernel : decode k_P_Parser_made.2.1 55 = .ok (.iload_n 3, 1)) rfl rfl) ?_
        obtain ⟨g10, h⟩ := gd_some h
        obtain ⟨a11, o12, h⟩ := gs_some h
        refine ai (p_aaldr (pc := 56) (j := 0) (by decide) o12 (by decide +kernel : decode k_P_Parser_made.2.1 56 = .ok (.aaload, 1)) t8 rfl g10) ?_
        obtain ⟨t13, h⟩ := gt_some h
        refine ai (r_getI (pc := 57) (by decide +kernel : decode k_P_Parser_made.2.1 57 = .ok (.getfield 96, 3)) lg_6_96 (by decide) t13) ?_
        refine ai (r_bipush (pc := 60) (by decide +kernel : decode k_P_Parser_made.2.1 60 = .ok (.bipush (40), 2)) (by decide : _ = (40 : Int32))) ?_
        rcases ite_some h with ⟨c14, h⟩ | ⟨c14, h⟩
        · refine ai (r_icmp_ne_f (pc := 62) 76 (by decide +kernel : decode k_P_Parser_made.2.1 62 = .ok (.if_icmp .ne (14), 3)) (by decide) c14) ?_
          refine ai (p_aload_n (pc := 65) (k := 0) (by decide +kernel : decode k_P_Parser_made.2.1 65 = .ok (.aload_n 0, 1)) rfl rfl) ?_
          refine ai (p_aload_n (pc := 66) (k := 2) (by decide +kernel : decode k_P_Parser_made.2.1 66 = .ok (.aload_n 2, 1)) rfl rfl) ?_
          refine ai (r_iload_n (pc := 67) (k := 3) (by decide +kernel : decode k_P_Parser_made.2.1 67 = .ok (.iload_n 3, 1)) rfl rfl) ?_
          obtain ⟨g15, h⟩ := gd_some h
          refine ai (p_aald (pc := 68) (j := 0) (by decide) (by decide +kernel : decode k_P_Parser_made.2.1 68 = .ok (.aaload, 1)) t8 rfl g15) ?_
          obtain ⟨a16, rfl, hha16⟩ := gs_some h
          have h := hha16
          refine ai (p_aload_n (pc := 69) (k := 1) (by decide +kernel : decode k_P_Parser_made.2.1 69 = .ok (.aload_n 1, 1)) rfl rfl) ?_
          obtain ⟨t17, h⟩ := gt_some h
          refine ai (r_getI (pc := 70) (by decide +kernel : decode k_P_Parser_made.2.1 70 = .ok (.getfield 99, 3)) lg_6_99 (by decide) t17) ?_
          obtain ⟨r18, m19, hr18, h⟩ := bn_some h
          have q20 := P_Parser_setAmbit_run hL hr18
          have c21 := (PC_22 hL).1
          have hL := q20.2
          refine ai (q_callV (pc := 73) (As := [va_rf (aR m7 a2 (ix x3)), .int (mI m7 1281 a16)]) (st := []) (st2 := []) (b := 22) (by simp [lv_args, vrc, vrs, cti, ctr, ctl, ctn, cta]) rfl (by decide +kernel : decode k_P_Parser_made.2.1 73 = .ok (.invokevirtual 104, 3)) lc_6_104 mo_P_Parser_setAmbit ⟨Nat.le_of_ble_eq_true rfl, Nat.le_of_ble_eq_true rfl⟩ (by simp [lg_sl, vrc, vrs, cti, ctr, ctl, ctn, cta, k_P_Parser_setAmbit]) (Nat.le_of_ble_eq_true rfl) c21 q20.1) ?_
          exact (P_Parser_made_76_run (fun _ _ _ _ _ _ q1 q3 => ih q1 q3) hL h)
        · refine ai (r_icmp_ne_t (pc := 62) (tgt := 76) (by decide +kernel : decode k_P_Parser_made.2.1 62 = .ok (.if_icmp .ne (14), 3)) (by decide) c14) ?_
          exact (P_Parser_made_76_run (fun _ _ _ _ _ _ q1 q3 => ih q1 q3) hL h)
set_option maxRecDepth 100000 in
set_option maxHeartbeats 4000000 in
theorem P_Parser_made_22_run {s0 : Option Nat} {m m' : Mem} {r : Option Nat} (hL : PL m) (h : P_Parser_made_22 s0 m = some (r, m')) : Run k_P_Parser_made 22 [(0, .ref 22)] [va_rf s0] m (some (va_rf r)) m' ∧ PL m' := by
  unfold P_Parser_made_22 at h
  refine ai (r_astore_n (pc := 22) (by decide +kernel : decode k_P_Parser_made.2.1 22 = .ok (.astore_n 1, 1)) rfl (by decide) rfl) ?_
  refine ai (p_aload_n (pc := 23) (k := 1) (by decide +kernel : decode k_P_Parser_made.2.1 23 = .ok (.aload_n 0, 1)) rfl rfl) ?_
  refine ai (r_getI (pc := 24) (by decide +kernel : decode k_P_Parser_made.2.1 24 = .ok (.getfield 74, 3)) lg_6_74 (by decide) (PC_22 hL).1) ?_
  obtain ⟨g1, h⟩ := gd_some h
  obtain ⟨m2, hm2, h⟩ := vb_some h
  have hL : PL m2 := by rw [hm2]; exact PL.nw hL
  refine ai (p_newR (pc := 27) (j := 0) hm2 (by decide) (by decide +kernel : decode k_P_Parser_made.2.1 27 = .ok (.anewarray 19, 3)) la_6_19 g1) ?_
  have t3 : mT m2 (mC m) = 36 := by rw [hm2]; exact up1_eq
  refine ai (p_astore_n (pc := 30) (by decide +kernel : decode k_P_Parser_made.2.1 30 = .ok (.astore_n 2, 1)) rfl (by decide) (by simp [f1, vrc, vrs, cti, ctr, ctl, ctn, cta]) (ls2 := [(2, .ref (mC m)), (1, va_rf s0), (0, .ref 22)])) ?_
  refine ai (r_iconst (pc := 31) (by decide +kernel : decode k_P_Parser_made.2.1 31 = .ok (.iconst 0, 1)) ic_0) ?_
  refine ai (e_istore_n (pc := 32) rfl (by decide +kernel : decode k_P_Parser_made.2.1 32 = .ok (.istore_n 3, 1)) rfl (by decide) rfl) ?_
  exact (ai (r_sub [3, 2, 1, 0] rfl) (P_Parser_made_33_run hL h))
set_option maxRecDepth 100000 in
set_option maxHeartbeats 4000000 in
theorem P_Parser_made_run {m m' : Mem} {r : Option Nat} (hL : PL m) (h : P_Parser_made m = some (r, m')) : Run k_P_Parser_made 0 [(0, .ref 22)] [] m (some (va_rf r)) m' ∧ PL m' := by
  unfold P_Parser_made at h
  refine ai (p_aload_n (pc := 0) (k := 0) (by decide +kernel : decode k_P_Parser_made.2.1 0 = .ok (.aload_n 0, 1)) rfl rfl) ?_
  refine ai (r_getI (pc := 1) (by decide +kernel : decode k_P_Parser_made.2.1 1 = .ok (.getfield 84, 3)) lg_6_84 (by decide) (PC_22 hL).1) ?_
  rcases ite_some h with ⟨c1, h⟩ | ⟨c1, h⟩
  · refine ai (r_if_ne_f (pc := 4) 11 (by decide +kernel : decode k_P_Parser_made.2.1 4 = .ok (.ifCond .ne (7), 3)) (by decide) c1) ?_
    refine ai (r_null (pc := 7) (by decide +kernel : decode k_P_Parser_made.2.1 7 = .ok (.aconst_null, 1))) ?_
    refine ai (r_goto (pc := 8) (tgt := 22) (by decide +kernel : decode k_P_Parser_made.2.1 8 = .ok (.goto (14), 3)) (by decide)) ?_
    exact (P_Parser_made_22_run hL h)
  · refine ai (r_if_ne_t (pc := 4) (tgt := 11) (by decide +kernel : decode k_P_Parser_made.2.1 4 = .ok (.ifCond .ne (7), 3)) (by decide) c1) ?_
    refine ai (p_aload_n (pc := 11) (k := 0) (by decide +kernel : decode k_P_Parser_made.2.1 11 = .ok (.aload_n 0, 1)) rfl rfl) ?_
    refine ai (p_getr (pc := 12) (PR_769_22 hL) (by decide +kernel : decode k_P_Parser_made.2.1 12 = .ok (.getfield 29, 3)) lg_6_29 (PC_22 hL).1) ?_
    refine ai (p_aload_n (pc := 15) (k := 0) (by decide +kernel : decode k_P_Parser_made.2.1 15 = .ok (.aload_n 0, 1)) rfl rfl) ?_
    refine ai (r_getI (pc := 16) (by decide +kernel : decode k_P_Parser_made.2.1 16 = .ok (.getfield 87, 3)) lg_6_87 (by decide) (PC_22 hL).1) ?_
    obtain ⟨r2, m3, hr2, h⟩ := bn_some h
    have q4 := P_Ledger_awardNamed_run hL hr2
    have c5 := (PC_13 hL).1
    have hL := q4.2
    refine ai (q_callV (pc := 19) (As := [.int (mI m 784 22)]) (st := []) (st2 := [va_rf r2]) (b := 13) rfl rfl (by decide +kernel : decode k_P_Parser_made.2.1 19 = .ok (.invokevirtual 90, 3)) lc_6_90 mo_P_Ledger_awardNamed ⟨Nat.le_of_ble_eq_true rfl, Nat.le_of_ble_eq_true rfl⟩ (Nat.le_of_ble_eq_true rfl) (Nat.le_of_ble_eq_true rfl) c5 q4.1) ?_
    exact (P_Parser_made_22_run hL h)
set_option maxRecDepth 100000 in
set_option maxHeartbeats 4000000 in
theorem P_Parser_finish_67_run {m m' : Mem} {r : Option Nat} (hL : PL m) (h : P_Parser_finish_67 m = some (r, m')) : Run k_P_Parser_finish 67 [(0, .ref 22)] [] m (some (va_rf r)) m' ∧ PL m' := by
  unfold P_Parser_finish_67 at h
  refine ai (p_aload_n (pc := 67) (k := 0) (by decide +kernel : decode k_P_Parser_finish.2.1 67 = .ok (.aload_n 0, 1)) rfl rfl) ?_
  refine ai (p_aload_n (pc := 68) (k := 0) (by decide +kernel : decode k_P_Parser_finish.2.1 68 = .ok (.aload_n 0, 1)) rfl rfl) ?_
  refine ai (r_getI (pc := 69) (by decide +kernel : decode k_P_Parser_finish.2.1 69 = .ok (.getfield 68, 3)) lg_6_68 (by decide) (PC_22 hL).1) ?_
  have c1 := (PC_22 hL).1
  obtain ⟨m2, hm2, h⟩ := vb_some h
  have hL : PL m2 := by rw [hm2]; exact hL
  refine ai (p_putI (pc := 72) hm2 (by decide +kernel : decode k_P_Parser_finish.2.1 72 = .ok (.putfield 65, 3)) lp_6_65 c1) ?_
  refine ai (r_null (pc := 75) (by decide +kernel : decode k_P_Parser_finish.2.1 75 = .ok (.aconst_null, 1))) ?_
  cases h
  exact ⟨r_aret (o := none) rfl (Or.inl ⟨_, rfl⟩) (by decide +kernel : decode k_P_Parser_finish.2.1 76 = .ok (.areturn, 1)), hL⟩
set_option maxRecDepth 100000 in
set_option maxHeartbeats 4000000 in
theorem P_Parser_finish_56_run {x1 : Int32} {m m' : Mem} {r : Option Nat} (hL : PL m) (h : P_Parser_finish_56 x1 m = some (r, m')) : Run k_P_Parser_finish 56 [(0, .ref 22), (1, .int x1)] [] m (some (va_rf r)) m' ∧ PL m' := by
  unfold P_Parser_finish_56 at h
  refine ai (r_iload_n (pc := 56) (k := 1) (by decide +kernel : decode k_P_Parser_finish.2.1 56 = .ok (.iload_n 1, 1)) rfl rfl) ?_
  rcases ite_some h with ⟨c1, h⟩ | ⟨c1, h⟩
  · refine ai (r_if_eq_t (pc := 57) (tgt := 67) (by decide +kernel : decode k_P_Parser_finish.2.1 57 = .ok (.ifCond .eq (10), 3)) (by decide) c1) ?_
    exact (ai (r_sub [0] rfl) (P_Parser_finish_67_run hL h))
  · refine ai (r_if_eq_f (pc := 57) 67 (by decide +kernel : decode k_P_Parser_finish.2.1 57 = .ok (.ifCond .eq (10), 3)) (by decide) c1) ?_
    refine ai (p_aload_n (pc := 60) (k := 0) (by decide +kernel : decode k_P_Parser_finish.2.1 60 = .ok (.aload_n 0, 1)) rfl rfl) ?_
    refine ai (r_getI (pc := 61) (by decide +kernel : decode k_P_Parser_finish.2.1 61 = .ok (.getfield 53, 3)) lg_6_53 (by decide) (PC_22 hL).1) ?_
    rcases ite_some h with ⟨c2, h⟩ | ⟨c2, h⟩
    · refine ai (r_if_eq_t (pc := 64) (tgt := 77) (by decide +kernel : decode k_P_Parser_finish.2.1 64 = .ok (.ifCond .eq (13), 3)) (by decide) c2) ?_
      refine ai (p_aload_n (pc := 77) (k := 0) (by decide +kernel : decode k_P_Parser_finish.2.1 77 = .ok (.aload_n 0, 1)) rfl rfl) ?_
      obtain ⟨r3, m4, hr3, h⟩ := bn_some h
      have q5 := P_Parser_made_run hL hr3
      have c6 := (PC_22 hL).1
      have hL := q5.2
      refine ai (q_callV (pc := 78) (As := []) (st := []) (st2 := [va_rf r3]) (b := 22) rfl rfl (by decide +kernel : decode k_P_Parser_finish.2.1 78 = .ok (.invokevirtual 80, 3)) lc_6_80 mo_P_Parser_made ⟨Nat.le_of_ble_eq_true rfl, Nat.le_of_ble_eq_true rfl⟩ (Nat.le_of_ble_eq_true rfl) (Nat.le_of_ble_eq_true rfl) c6 q5.1) ?_
      cases h
      exact ⟨r_aret (o := _) rfl (Or.inl ⟨_, rfl⟩) (by decide +kernel : decode k_P_Parser_finish.2.1 81 = .ok (.areturn, 1)), hL⟩
    · refine ai (r_if_eq_f (pc := 64) 77 (by decide +kernel : decode k_P_Parser_finish.2.1 64 = .ok (.ifCond .eq (13), 3)) (by decide) c2) ?_
      exact (ai (r_sub [0] rfl) (P_Parser_finish_67_run hL h))
set_option maxRecDepth 100000 in
set_option maxHeartbeats 4000000 in
theorem P_Parser_finish_30_run {x1 : Int32} {m m' : Mem} {r : Option Nat} (hL : PL m) (h : P_Parser_finish_30 x1 m = some (r, m')) : Run k_P_Parser_finish 30 [(0, .ref 22), (1, .int x1)] [] m (some (va_rf r)) m' ∧ PL m' := by
  unfold P_Parser_finish_30 at h
  refine ai (r_iload_n (pc := 30) (k := 1) (by decide +kernel : decode k_P_Parser_finish.2.1 30 = .ok (.iload_n 1, 1)) rfl rfl) ?_
  rcases ite_some h with ⟨c1, h⟩ | ⟨c1, h⟩
  · refine ai (r_if_eq_t (pc := 31) (tgt := 56) (by decide +kernel : decode k_P_Parser_finish.2.1 31 = .ok (.ifCond .eq (25), 3)) (by decide) c1) ?_
    exact (P_Parser_finish_56_run hL h)
  · refine ai (r_if_eq_f (pc := 31) 56 (by decide +kernel : decode k_P_Parser_finish.2.1 31 = .ok (.ifCond .eq (25), 3)) (by decide) c1) ?_
    refine ai (p_aload_n (pc := 34) (k := 0) (by decide +kernel : decode k_P_Parser_finish.2.1 34 = .ok (.aload_n 0, 1)) rfl rfl) ?_
    refine ai (r_getI (pc := 35) (by decide +kernel : decode k_P_Parser_finish.2.1 35 = .ok (.getfield 62, 3)) lg_6_62 (by decide) (PC_22 hL).1) ?_
    refine ai (r_iconst (pc := 38) (by decide +kernel : decode k_P_Parser_finish.2.1 38 = .ok (.iconst (-1), 1)) ic_m1) ?_
    rcases ite_some h with ⟨c2, h⟩ | ⟨c2, h⟩
    · refine ai (r_icmp_eq_t (pc := 39) (tgt := 56) (by decide +kernel : decode k_P_Parser_finish.2.1 39 = .ok (.if_icmp .eq (17), 3)) (by decide) c2) ?_
      exact (P_Parser_finish_56_run hL h)
    · refine ai (r_icmp_eq_f (pc := 39) 56 (by decide +kernel : decode k_P_Parser_finish.2.1 39 = .ok (.if_icmp .eq (17), 3)) (by decide) c2) ?_
      refine ai (p_aload_n (pc := 42) (k := 0) (by decide +kernel : decode k_P_Parser_finish.2.1 42 = .ok (.aload_n 0, 1)) rfl rfl) ?_
      refine ai (r_bipush (pc := 43) (by decide +kernel : decode k_P_Parser_finish.2.1 43 = .ok (.bipush (6), 2)) (by decide : _ = (6 : Int32))) ?_
      have c3 := (PC_22 hL).1
      obtain ⟨m4, hm4, h⟩ := vb_some h
      have hL : PL m4 := by rw [hm4]; exact hL
      refine ai (p_putI (pc := 45) hm4 (by decide +kernel : decode k_P_Parser_finish.2.1 45 = .ok (.putfield 53, 3)) lp_6_53 c3) ?_
      refine ai (p_aload_n (pc := 48) (k := 0) (by decide +kernel : decode k_P_Parser_finish.2.1 48 = .ok (.aload_n 0, 1)) rfl rfl) ?_
      refine ai (p_aload_n (pc := 49) (k := 0) (by decide +kernel : decode k_P_Parser_finish.2.1 49 = .ok (.aload_n 0, 1)) rfl rfl) ?_
      refine ai (r_getI (pc := 50) (by decide +kernel : decode k_P_Parser_finish.2.1 50 = .ok (.getfield 62, 3)) lg_6_62 (by decide) (PC_22 hL).1) ?_
      have c5 := (PC_22 hL).1
      obtain ⟨m6, hm6, h⟩ := vb_some h
      have hL : PL m6 := by rw [hm6]; exact hL
      refine ai (p_putI (pc := 53) hm6 (by decide +kernel : decode k_P_Parser_finish.2.1 53 = .ok (.putfield 15, 3)) lp_6_15 c5) ?_
      exact (P_Parser_finish_56_run hL h)
set_option maxRecDepth 100000 in
set_option maxHeartbeats 4000000 in
theorem P_Parser_finish_run {x1 : Int32} {m m' : Mem} {r : Option Nat} (hL : PL m) (h : P_Parser_finish x1 m = some (r, m')) : Run k_P_Parser_finish 0 [(0, .ref 22), (1, .int x1)] [] m (some (va_rf r)) m' ∧ PL m' := by
  unfold P_Parser_finish at h
  refine ai (r_iload_n (pc := 0) (k := 1) (by decide +kernel : decode k_P_Parser_finish.2.1 0 = .ok (.iload_n 1, 1)) rfl rfl) ?_
  rcases ite_some h with ⟨c1, h⟩ | ⟨c1, h⟩
  · refine ai (r_if_eq_t (pc := 1) (tgt := 30) (by decide +kernel : decode k_P_Parser_finish.2.1 1 = .ok (.ifCond .eq (29), 3)) (by decide) c1) ?_
    exact (P_Parser_finish_30_run hL h)
  · refine ai (r_if_eq_f (pc := 1) 30 (by decide +kernel : decode k_P_Parser_finish.2.1 1 = .ok (.ifCond .eq (29), 3)) (by decide) c1) ?_
    refine ai (p_aload_n (pc := 4) (k := 0) (by decide +kernel : decode k_P_Parser_finish.2.1 4 = .ok (.aload_n 0, 1)) rfl rfl) ?_
    refine ai (r_getI (pc := 5) (by decide +kernel : decode k_P_Parser_finish.2.1 5 = .ok (.getfield 56, 3)) lg_6_56 (by decide) (PC_22 hL).1) ?_
    rcases ite_some h with ⟨c2, h⟩ | ⟨c2, h⟩
    · refine ai (r_if_eq_t (pc := 8) (tgt := 30) (by decide +kernel : decode k_P_Parser_finish.2.1 8 = .ok (.ifCond .eq (22), 3)) (by decide) c2) ?_
      exact (P_Parser_finish_30_run hL h)
    · refine ai (r_if_eq_f (pc := 8) 30 (by decide +kernel : decode k_P_Parser_finish.2.1 8 = .ok (.ifCond .eq (22), 3)) (by decide) c2) ?_
      refine ai (p_aload_n (pc := 11) (k := 0) (by decide +kernel : decode k_P_Parser_finish.2.1 11 = .ok (.aload_n 0, 1)) rfl rfl) ?_
      refine ai (p_aload_n (pc := 12) (k := 0) (by decide +kernel : decode k_P_Parser_finish.2.1 12 = .ok (.aload_n 0, 1)) rfl rfl) ?_
      refine ai (r_getI (pc := 13) (by decide +kernel : decode k_P_Parser_finish.2.1 13 = .ok (.getfield 56, 3)) lg_6_56 (by decide) (PC_22 hL).1) ?_
      have c3 := (PC_22 hL).1
      obtain ⟨m4, hm4, h⟩ := vb_some h
      have hL : PL m4 := by rw [hm4]; exact hL
      refine ai (p_putI (pc := 16) hm4 (by decide +kernel : decode k_P_Parser_finish.2.1 16 = .ok (.putfield 53, 3)) lp_6_53 c3) ?_
      refine ai (p_aload_n (pc := 19) (k := 0) (by decide +kernel : decode k_P_Parser_finish.2.1 19 = .ok (.aload_n 0, 1)) rfl rfl) ?_
      refine ai (p_aload_n (pc := 20) (k := 0) (by decide +kernel : decode k_P_Parser_finish.2.1 20 = .ok (.aload_n 0, 1)) rfl rfl) ?_
      refine ai (r_getI (pc := 21) (by decide +kernel : decode k_P_Parser_finish.2.1 21 = .ok (.getfield 59, 3)) lg_6_59 (by decide) (PC_22 hL).1) ?_
      have c5 := (PC_22 hL).1
      obtain ⟨m6, hm6, h⟩ := vb_some h
      have hL : PL m6 := by rw [hm6]; exact hL
      refine ai (p_putI (pc := 24) hm6 (by decide +kernel : decode k_P_Parser_finish.2.1 24 = .ok (.putfield 15, 3)) lp_6_15 c5) ?_
      refine ai (r_goto (pc := 27) (tgt := 56) (by decide +kernel : decode k_P_Parser_finish.2.1 27 = .ok (.goto (29), 3)) (by decide)) ?_
      exact (P_Parser_finish_56_run hL h)
set_option maxRecDepth 100000 in
set_option maxHeartbeats 4000000 in
theorem P_Fact_init_run {a0 : Nat} {x1 : Int32} {x2 : Int32} {x3 : Int32} {x4 : Int32} {x5 : Int32} {x6 : Int32} {x7 : Option Nat} {m m' : Mem} {r : Unit} (hL : PL m) (ht : mT m a0 = 1) (h : P_Fact_init a0 x1 x2 x3 x4 x5 x6 x7 m = some (r, m')) : Run k_P_Fact_init 0 [(0, .ref a0), (1, .int x1), (2, .int x2), (3, .int x3), (4, .int x4), (5, .int x5), (6, .int x6), (7, va_rf x7)] [] m none m' ∧ PL m' := by
  unfold P_Fact_init at h
  refine ai (p_aload_n (pc := 0) (k := 0) (by decide +kernel : decode k_P_Fact_init.2.1 0 = .ok (.aload_n 0, 1)) rfl rfl) ?_
  refine ai (r_objI (pc := 1) (by decide +kernel : decode k_P_Fact_init.2.1 1 = .ok (.invokespecial 3, 3)) lo_0_3 lo_inst lo_code (Nat.le_of_ble_eq_true rfl) ⟨by decide, by decide⟩) ?_
  refine ai (p_aload_n (pc := 4) (k := 0) (by decide +kernel : decode k_P_Fact_init.2.1 4 = .ok (.aload_n 0, 1)) rfl rfl) ?_
  refine ai (r_iload_n (pc := 5) (k := 1) (by decide +kernel : decode k_P_Fact_init.2.1 5 = .ok (.iload_n 1, 1)) rfl rfl) ?_
  obtain ⟨m1, hm1, h⟩ := vb_some h
  have hL : PL m1 := by rw [hm1]; exact hL
  have t2 : mT m1 a0 = 1 := by rw [hm1]; exact ht
  refine ai (p_putI (pc := 6) hm1 (by decide +kernel : decode k_P_Fact_init.2.1 6 = .ok (.putfield 9, 3)) lp_0_9 ht) ?_
  refine ai (p_aload_n (pc := 9) (k := 0) (by decide +kernel : decode k_P_Fact_init.2.1 9 = .ok (.aload_n 0, 1)) rfl rfl) ?_
  refine ai (r_iload_n (pc := 10) (k := 2) (by decide +kernel : decode k_P_Fact_init.2.1 10 = .ok (.iload_n 2, 1)) rfl rfl) ?_
  obtain ⟨m3, hm3, h⟩ := vb_some h
  have hL : PL m3 := by rw [hm3]; exact hL
  have t4 : mT m3 a0 = 1 := by rw [hm3]; exact t2
  refine ai (p_putI (pc := 11) hm3 (by decide +kernel : decode k_P_Fact_init.2.1 11 = .ok (.putfield 15, 3)) lp_0_15 t2) ?_
  refine ai (p_aload_n (pc := 14) (k := 0) (by decide +kernel : decode k_P_Fact_init.2.1 14 = .ok (.aload_n 0, 1)) rfl rfl) ?_
  refine ai (r_iload_n (pc := 15) (k := 3) (by decide +kernel : decode k_P_Fact_init.2.1 15 = .ok (.iload_n 3, 1)) rfl rfl) ?_
  obtain ⟨m5, hm5, h⟩ := vb_some h
  have hL : PL m5 := by rw [hm5]; exact hL
  have t6 : mT m5 a0 = 1 := by rw [hm5]; exact t4
  refine ai (p_putI (pc := 16) hm5 (by decide +kernel : decode k_P_Fact_init.2.1 16 = .ok (.putfield 18, 3)) lp_0_18 t4) ?_
  refine ai (p_aload_n (pc := 19) (k := 0) (by decide +kernel : decode k_P_Fact_init.2.1 19 = .ok (.aload_n 0, 1)) rfl rfl) ?_
  refine ai (r_iload (pc := 20) (k := 4) (by decide +kernel : decode k_P_Fact_init.2.1 20 = .ok (.iload 4, 2)) rfl) ?_
  obtain ⟨m7, hm7, h⟩ := vb_some h
  have hL : PL m7 := by rw [hm7]; exact hL
  have t8 : mT m7 a0 = 1 := by rw [hm7]; exact t6
  refine ai (p_putI (pc := 22) hm7 (by decide +kernel : decode k_P_Fact_init.2.1 22 = .ok (.putfield 21, 3)) lp_0_21 t6) ?_
  refine ai (p_aload_n (pc := 25) (k := 0) (by decide +kernel : decode k_P_Fact_init.2.1 25 = .ok (.aload_n 0, 1)) rfl rfl) ?_
  refine ai (r_iload (pc := 26) (k := 5) (by decide +kernel : decode k_P_Fact_init.2.1 26 = .ok (.iload 5, 2)) rfl) ?_
  obtain ⟨m9, hm9, h⟩ := vb_some h
  have hL : PL m9 := by rw [hm9]; exact hL
  have t10 : mT m9 a0 = 1 := by rw [hm9]; exact t8
  refine ai (p_putI (pc := 28) hm9 (by decide +kernel : decode k_P_Fact_init.2.1 28 = .ok (.putfield 24, 3)) lp_0_24 t8) ?_
  refine ai (p_aload_n (pc := 31) (k := 0) (by decide +kernel : decode k_P_Fact_init.2.1 31 = .ok (.aload_n 0, 1)) rfl rfl) ?_
  refine ai (r_aload (pc := 32) (k := 7) (by decide +kernel : decode k_P_Fact_init.2.1 32 = .ok (.aload 7, 2)) rfl) ?_
  obtain ⟨m11, hm11, h⟩ := vb_some h
  have hL : PL m11 := by rw [hm11]; exact PL.sR (by decide) hL
  have t12 : mT m11 a0 = 1 := by rw [hm11]; exact t10
  refine ai (p_putR (pc := 34) hm11 (by decide +kernel : decode k_P_Fact_init.2.1 34 = .ok (.putfield 27, 3)) lp_0_27 t10) ?_
  refine ai (p_aload_n (pc := 37) (k := 0) (by decide +kernel : decode k_P_Fact_init.2.1 37 = .ok (.aload_n 0, 1)) rfl rfl) ?_
  refine ai (r_iconst (pc := 38) (by decide +kernel : decode k_P_Fact_init.2.1 38 = .ok (.iconst 0, 1)) ic_0) ?_
  refine ai (r_iload (pc := 39) (k := 6) (by decide +kernel : decode k_P_Fact_init.2.1 39 = .ok (.iload 6, 2)) rfl) ?_
  refine ai (r_mmax (pc := 41) (by decide +kernel : decode k_P_Fact_init.2.1 41 = .ok (.invokestatic 31, 3)) lm_0_31 lm_mmax_st lm_math lm_mmax_cd ⟨by decide, by decide⟩ (Nat.le_of_ble_eq_true rfl)) ?_
  obtain ⟨g13, h⟩ := gd_some h
  obtain ⟨m14, hm14, h⟩ := vb_some h
  have hL : PL m14 := by rw [hm14]; exact PL.nw hL
  refine ai (p_newI (pc := 44) hm14 (by decide +kernel : decode k_P_Fact_init.2.1 44 = .ok (.newarray .int, 2)) lw_arr_int g13) ?_
  have t16 : mT m14 (mC m11) = 32 := by rw [hm14]; exact up1_eq
  obtain ⟨t17, h⟩ := gt_some h
  obtain ⟨m18, hm18, h⟩ := vb_some h
  have hL : PL m18 := by rw [hm18]; exact PL.sR (by decide) hL
  have t19 : mT m18 (mC m11) = 32 := by rw [hm18]; exact t16
  have t20 : mT m18 a0 = 1 := by rw [hm18]; exact t17
  refine ai (p_putr (pc := 46) hm18 (by decide +kernel : decode k_P_Fact_init.2.1 46 = .ok (.putfield 37, 3)) lp_0_37 t17) ?_
  refine ai (p_aload_n (pc := 49) (k := 0) (by decide +kernel : decode k_P_Fact_init.2.1 49 = .ok (.aload_n 0, 1)) rfl rfl) ?_
  refine ai (p_getR (pc := 50) (by decide +kernel : decode k_P_Fact_init.2.1 50 = .ok (.getfield 37, 3)) lg_0_37 t20) ?_
  refine ai (r_iconst (pc := 53) (by decide +kernel : decode k_P_Fact_init.2.1 53 = .ok (.iconst (-1), 1)) ic_m1) ?_
  obtain ⟨r21, m22, hr21, h⟩ := bn_some h
  have q23 := J_fill_run hr21
  have hL := PL.kp hL q23.2
  refine ai (q_callS (pc := 54) (As := [va_rf (mR m18 5 a0), .int (-1)]) (st := []) (st2 := []) (by simp [lv_args, vrc, vrs, cti, ctr, ctl, ctn, cta]) rfl (by decide +kernel : decode k_P_Fact_init.2.1 54 = .ok (.invokestatic 41, 3)) lc_0_41 mo_J_fill ⟨Nat.le_of_ble_eq_true rfl, Nat.le_of_ble_eq_true rfl⟩ (by simp [lg_sl, vrc, vrs, cti, ctr, ctl, ctn, cta, k_J_fill]) (Nat.le_of_ble_eq_true rfl) q23.1) ?_
  have t24 : mT m22 (mC m11) = 32 := by rw [q23.2.1]; exact t19
  have t25 : mT m22 a0 = 1 := by rw [q23.2.1]; exact t20
  cases h
  exact ⟨r_vret rfl (by decide +kernel : decode k_P_Fact_init.2.1 57 = .ok (.return_, 1)), hL⟩
set_option maxRecDepth 100000 in
set_option maxHeartbeats 4000000 in
theorem P_Ledger_add_run {x1 : Option Nat} {m m' : Mem} {r : Int32} (hL : PL m) (h : P_Ledger_add x1 m = some (r, m')) : Run k_P_Ledger_add 0 [(0, .ref 13), (1, va_rf x1)] [] m (some (.int r)) m' ∧ PL m' := by
  unfold P_Ledger_add at h
  refine ai (p_aload_n (pc := 0) (k := 0) (by decide +kernel : decode k_P_Ledger_add.2.1 0 = .ok (.aload_n 0, 1)) rfl rfl) ?_
  refine ai (r_getI (pc := 1) (by decide +kernel : decode k_P_Ledger_add.2.1 1 = .ok (.getfield 23, 3)) lg_4_23 (by decide) (PC_13 hL).1) ?_
  refine ai (r_sipush (pc := 4) (by decide +kernel : decode k_P_Ledger_add.2.1 4 = .ok (.sipush (160), 3)) (by decide : _ = (160 : Int32))) ?_
  rcases ite_some h with ⟨c1, h⟩ | ⟨c1, h⟩
  · refine ai (r_icmp_lt_t (pc := 7) (tgt := 12) (by decide +kernel : decode k_P_Ledger_add.2.1 7 = .ok (.if_icmp .lt (5), 3)) (by decide) c1) ?_
    refine ai (p_aload_n (pc := 12) (k := 0) (by decide +kernel : decode k_P_Ledger_add.2.1 12 = .ok (.aload_n 0, 1)) rfl rfl) ?_
    refine ai (p_getr (pc := 13) (PR_512_13 hL) (by decide +kernel : decode k_P_Ledger_add.2.1 13 = .ok (.getfield 11, 3)) lg_4_11 (PC_13 hL).1) ?_
    refine ai (p_aload_n (pc := 16) (k := 0) (by decide +kernel : decode k_P_Ledger_add.2.1 16 = .ok (.aload_n 0, 1)) rfl rfl) ?_
    refine ai (r_getI (pc := 17) (by decide +kernel : decode k_P_Ledger_add.2.1 17 = .ok (.getfield 23, 3)) lg_4_23 (by decide) (PC_13 hL).1) ?_
    refine ai (r_aload_n (pc := 20) (k := 1) (by decide +kernel : decode k_P_Ledger_add.2.1 20 = .ok (.aload_n 1, 1)) rfl rfl) ?_
    obtain ⟨g2, h⟩ := gd_some h
    obtain ⟨g3, h⟩ := go_some h
    have c4 := (PC_14 hL).1
    have c5 := (PC_14 hL).2
    obtain ⟨m6, hm6, h⟩ := vb_some h
    have hL : PL m6 := by rw [hm6]; exact hL
    refine ai (p_aast (pc := 21) (j := 2) (by decide) hm6 (by decide +kernel : decode k_P_Ledger_add.2.1 21 = .ok (.aastore, 1)) c4 c5 g2 g3) ?_
    refine ai (p_aload_n (pc := 22) (k := 0) (by decide +kernel : decode k_P_Ledger_add.2.1 22 = .ok (.aload_n 0, 1)) rfl rfl) ?_
    refine ai (r_dup (pc := 23) (by decide +kernel : decode k_P_Ledger_add.2.1 23 = .ok (.dup, 1)) (rfl)) ?_
    refine ai (r_getI (pc := 24) (by decide +kernel : decode k_P_Ledger_add.2.1 24 = .ok (.getfield 23, 3)) lg_4_23 (by decide) (PC_13 hL).1) ?_
    refine ai (r_iconst (pc := 27) (by decide +kernel : decode k_P_Ledger_add.2.1 27 = .ok (.iconst 1, 1)) ic_1) ?_
    refine ai (r_iadd (pc := 28) (by decide +kernel : decode k_P_Ledger_add.2.1 28 = .ok (.iadd, 1))) ?_
    have c7 := (PC_13 hL).1
    obtain ⟨m8, hm8, h⟩ := vb_some h
    have hL : PL m8 := by rw [hm8]; exact hL
    refine ai (p_putI (pc := 29) hm8 (by decide +kernel : decode k_P_Ledger_add.2.1 29 = .ok (.putfield 23, 3)) lp_4_23 c7) ?_
    refine ai (p_aload_n (pc := 32) (k := 0) (by decide +kernel : decode k_P_Ledger_add.2.1 32 = .ok (.aload_n 0, 1)) rfl rfl) ?_
    refine ai (r_getI (pc := 33) (by decide +kernel : decode k_P_Ledger_add.2.1 33 = .ok (.getfield 23, 3)) lg_4_23 (by decide) (PC_13 hL).1) ?_
    refine ai (r_iconst (pc := 36) (by decide +kernel : decode k_P_Ledger_add.2.1 36 = .ok (.iconst 1, 1)) ic_1) ?_
    refine ai (r_isub (pc := 37) (by decide +kernel : decode k_P_Ledger_add.2.1 37 = .ok (.isub, 1))) ?_
    cases h
    exact ⟨r_iret rfl (by decide +kernel : decode k_P_Ledger_add.2.1 38 = .ok (.ireturn, 1)), hL⟩
  · refine ai (r_icmp_lt_f (pc := 7) 12 (by decide +kernel : decode k_P_Ledger_add.2.1 7 = .ok (.if_icmp .lt (5), 3)) (by decide) c1) ?_
    refine ai (r_iconst (pc := 10) (by decide +kernel : decode k_P_Ledger_add.2.1 10 = .ok (.iconst (-1), 1)) ic_m1) ?_
    cases h
    exact ⟨r_iret rfl (by decide +kernel : decode k_P_Ledger_add.2.1 11 = .ok (.ireturn, 1)), hL⟩
set_option maxRecDepth 100000 in
set_option maxHeartbeats 4000000 in
theorem P_Ledger_enter_95_run {x1 : Option Nat} {x2 : Int32} {m m' : Mem} {r : Unit} (hL : PL m) (h : P_Ledger_enter_95 x1 x2 m = some (r, m')) : Run k_P_Ledger_enter 95 [(0, .ref 13), (1, va_rf x1), (2, .int x2)] [] m none m' ∧ PL m' := by
  unfold P_Ledger_enter_95 at h
  refine ai (p_aload_n (pc := 95) (k := 0) (by decide +kernel : decode k_P_Ledger_enter.2.1 95 = .ok (.aload_n 0, 1)) rfl rfl) ?_
  refine ai (p_getr (pc := 96) (PR_513_13 hL) (by decide +kernel : decode k_P_Ledger_enter.2.1 96 = .ok (.getfield 19, 3)) lg_4_19 (PC_13 hL).1) ?_
  refine ai (r_iload_n (pc := 99) (k := 2) (by decide +kernel : decode k_P_Ledger_enter.2.1 99 = .ok (.iload_n 2, 1)) rfl rfl) ?_
  refine ai (r_aload_n (pc := 100) (k := 1) (by decide +kernel : decode k_P_Ledger_enter.2.1 100 = .ok (.aload_n 1, 1)) rfl rfl) ?_
  obtain ⟨g1, h⟩ := gd_some h
  obtain ⟨g2, h⟩ := go_some h
  have c3 := (PC_15 hL).1
  have c4 := (PC_15 hL).2
  obtain ⟨m5, hm5, h⟩ := vb_some h
  have hL : PL m5 := by rw [hm5]; exact hL
  refine ai (p_aast (pc := 101) (j := 1) (by decide) hm5 (by decide +kernel : decode k_P_Ledger_enter.2.1 101 = .ok (.aastore, 1)) c3 c4 g1 g2) ?_
  refine ai (p_aload_n (pc := 102) (k := 0) (by decide +kernel : decode k_P_Ledger_enter.2.1 102 = .ok (.aload_n 0, 1)) rfl rfl) ?_
  refine ai (r_dup (pc := 103) (by decide +kernel : decode k_P_Ledger_enter.2.1 103 = .ok (.dup, 1)) (rfl)) ?_
  refine ai (r_getI (pc := 104) (by decide +kernel : decode k_P_Ledger_enter.2.1 104 = .ok (.getfield 39, 3)) lg_4_39 (by decide) (PC_13 hL).1) ?_
  refine ai (r_iconst (pc := 107) (by decide +kernel : decode k_P_Ledger_enter.2.1 107 = .ok (.iconst 1, 1)) ic_1) ?_
  refine ai (r_iadd (pc := 108) (by decide +kernel : decode k_P_Ledger_enter.2.1 108 = .ok (.iadd, 1))) ?_
  have c6 := (PC_13 hL).1
  obtain ⟨m7, hm7, h⟩ := vb_some h
  have hL : PL m7 := by rw [hm7]; exact hL
  refine ai (p_putI (pc := 109) hm7 (by decide +kernel : decode k_P_Ledger_enter.2.1 109 = .ok (.putfield 39, 3)) lp_4_39 c6) ?_
  cases h
  exact ⟨r_vret rfl (by decide +kernel : decode k_P_Ledger_enter.2.1 112 = .ok (.return_, 1)), hL⟩
set_option maxRecDepth 100000 in
set_option maxHeartbeats 4000000 in
theorem P_Ledger_enter_53_run {n : Nat} {x1 : Option Nat} {x2 : Int32} {m m' : Mem} {r : Unit} (hL : PL m) (h : P_Ledger_enter_53 n x1 x2 m = some (r, m')) : Run k_P_Ledger_enter 53 [(0, .ref 13), (1, va_rf x1), (2, .int x2)] [] m none m' ∧ PL m' := by
  induction n generalizing x1 x2 m r m' with
  | zero => exact absurd h (by simp [P_Ledger_enter_53])
  | succ n ih =>
    rw [P_Ledger_enter_53.eq_2] at h
    refine ai (r_iload_n (pc := 53) (k := 2) (by decide +kernel : decode k_P_Ledger_enter.2.1 53 = .ok (.iload_n 2, 1)) rfl rfl) ?_
    rcases ite_some h with ⟨c1, h⟩ | ⟨c1, h⟩
    · refine ai (r_if_le_t (pc := 54) (tgt := 95) (by decide +kernel : decode k_P_Ledger_enter.2.1 54 = .ok (.ifCond .le (41), 3)) (by decide) c1) ?_
      exact (P_Ledger_enter_95_run hL h)
    · refine ai (r_if_le_f (pc := 54) 95 (by decide +kernel : decode k_P_Ledger_enter.2.1 54 = .ok (.ifCond .le (41), 3)) (by decide) c1) ?_
      refine ai (p_aload_n (pc := 57) (k := 0) (by decide +kernel : decode k_P_Ledger_enter.2.1 57 = .ok (.aload_n 0, 1)) rfl rfl) ?_
      refine ai (p_getr (pc := 58) (PR_513_13 hL) (by decide +kernel : decode k_P_Ledger_enter.2.1 58 = .ok (.getfield 19, 3)) lg_4_19 (PC_13 hL).1) ?_
      refine ai (r_iload_n (pc := 61) (k := 2) (by decide +kernel : decode k_P_Ledger_enter.2.1 61 = .ok (.iload_n 2, 1)) rfl rfl) ?_
      refine ai (r_iconst (pc := 62) (by decide +kernel : decode k_P_Ledger_enter.2.1 62 = .ok (.iconst 1, 1)) ic_1) ?_
      refine ai (r_isub (pc := 63) (by decide +kernel : decode k_P_Ledger_enter.2.1 63 = .ok (.isub, 1))) ?_
      obtain ⟨g2, h⟩ := gd_some h
      obtain ⟨a3, o4, h⟩ := gs_some h
      refine ai (p_aaldr (pc := 64) (j := 1) (by decide) o4 (by decide +kernel : decode k_P_Ledger_enter.2.1 64 = .ok (.aaload, 1)) (PC_15 hL).1 (PC_15 hL).2 g2) ?_
      obtain ⟨t5, h⟩ := gt_some h
      refine ai (r_getI (pc := 65) (by decide +kernel : decode k_P_Ledger_enter.2.1 65 = .ok (.getfield 55, 3)) lg_4_55 (by decide) t5) ?_
      obtain ⟨a6, rfl, hha6⟩ := gs_some h
      have h := hha6
      refine ai (p_aload_n (pc := 68) (k := 1) (by decide +kernel : decode k_P_Ledger_enter.2.1 68 = .ok (.aload_n 1, 1)) rfl rfl) ?_
      obtain ⟨t7, h⟩ := gt_some h
      refine ai (r_getI (pc := 69) (by decide +kernel : decode k_P_Ledger_enter.2.1 69 = .ok (.getfield 55, 3)) lg_4_55 (by decide) t7) ?_
      rcases ite_some h with ⟨c8, h⟩ | ⟨c8, h⟩
      · refine ai (r_icmp_le_t (pc := 72) (tgt := 95) (by decide +kernel : decode k_P_Ledger_enter.2.1 72 = .ok (.if_icmp .le (23), 3)) (by decide) c8) ?_
        exact (P_Ledger_enter_95_run hL h)
      · refine ai (r_icmp_le_f (pc := 72) 95 (by decide +kernel : decode k_P_Ledger_enter.2.1 72 = .ok (.if_icmp .le (23), 3)) (by decide) c8) ?_
        refine ai (p_aload_n (pc := 75) (k := 0) (by decide +kernel : decode k_P_Ledger_enter.2.1 75 = .ok (.aload_n 0, 1)) rfl rfl) ?_
        refine ai (p_getr (pc := 76) (PR_513_13 hL) (by decide +kernel : decode k_P_Ledger_enter.2.1 76 = .ok (.getfield 19, 3)) lg_4_19 (PC_13 hL).1) ?_
        refine ai (r_iload_n (pc := 79) (k := 2) (by decide +kernel : decode k_P_Ledger_enter.2.1 79 = .ok (.iload_n 2, 1)) rfl rfl) ?_
        refine ai (p_aload_n (pc := 80) (k := 0) (by decide +kernel : decode k_P_Ledger_enter.2.1 80 = .ok (.aload_n 0, 1)) rfl rfl) ?_
        refine ai (p_getr (pc := 81) (PR_513_13 hL) (by decide +kernel : decode k_P_Ledger_enter.2.1 81 = .ok (.getfield 19, 3)) lg_4_19 (PC_13 hL).1) ?_
        refine ai (r_iload_n (pc := 84) (k := 2) (by decide +kernel : decode k_P_Ledger_enter.2.1 84 = .ok (.iload_n 2, 1)) rfl rfl) ?_
        refine ai (r_iconst (pc := 85) (by decide +kernel : decode k_P_Ledger_enter.2.1 85 = .ok (.iconst 1, 1)) ic_1) ?_
        refine ai (r_isub (pc := 86) (by decide +kernel : decode k_P_Ledger_enter.2.1 86 = .ok (.isub, 1))) ?_
        obtain ⟨g9, h⟩ := gd_some h
        refine ai (p_aald (pc := 87) (j := 1) (by decide) (by decide +kernel : decode k_P_Ledger_enter.2.1 87 = .ok (.aaload, 1)) (PC_15 hL).1 (PC_15 hL).2 g9) ?_
        obtain ⟨g10, h⟩ := gd_some h
        obtain ⟨g11, h⟩ := go_some h
        have c12 := (PC_15 hL).1
        have c13 := (PC_15 hL).2
        obtain ⟨m14, hm14, h⟩ := vb_some h
        have hL : PL m14 := by rw [hm14]; exact hL
        have t15 : mT m14 a3 = 11 := by rw [hm14]; exact t5
        have t16 : mT m14 a6 = 11 := by rw [hm14]; exact t7
        refine ai (p_aast (pc := 88) (j := 1) (by decide) hm14 (by decide +kernel : decode k_P_Ledger_enter.2.1 88 = .ok (.aastore, 1)) c12 c13 g10 g11) ?_
        obtain ⟨v17, hv17, h⟩ := vb_some h
        refine ai (e_iinc (pc := 89) (k := 2) hv17 ic_m1 (by decide +kernel : decode k_P_Ledger_enter.2.1 89 = .ok (.iinc 2 (-1), 3)) rfl (by decide) rfl) ?_
        refine ai (r_goto (pc := 92) (tgt := 53) (by decide +kernel : decode k_P_Ledger_enter.2.1 92 = .ok (.goto (-39), 3)) (by decide)) ?_
        exact (ai (r_sub [1, 2, 0] rfl) (ih hL h))
set_option maxRecDepth 100000 in
set_option maxHeartbeats 4000000 in
theorem P_Ledger_enter_run {x1 : Option Nat} {m m' : Mem} {r : Unit} (hL : PL m) (h : P_Ledger_enter x1 m = some (r, m')) : Run k_P_Ledger_enter 0 [(0, .ref 13), (1, va_rf x1)] [] m none m' ∧ PL m' := by
  unfold P_Ledger_enter at h
  refine ai (p_aload_n (pc := 0) (k := 0) (by decide +kernel : decode k_P_Ledger_enter.2.1 0 = .ok (.aload_n 0, 1)) rfl rfl) ?_
  refine ai (r_getI (pc := 1) (by decide +kernel : decode k_P_Ledger_enter.2.1 1 = .ok (.getfield 39, 3)) lg_4_39 (by decide) (PC_13 hL).1) ?_
  refine ai (r_bipush (pc := 4) (by decide +kernel : decode k_P_Ledger_enter.2.1 4 = .ok (.bipush (24), 2)) (by decide : _ = (24 : Int32))) ?_
  rcases ite_some h with ⟨c1, h⟩ | ⟨c1, h⟩
  · refine ai (r_icmp_ge_t (pc := 6) (tgt := 19) (by decide +kernel : decode k_P_Ledger_enter.2.1 6 = .ok (.if_icmp .ge (13), 3)) (by decide) c1) ?_
    cases h
    exact ⟨r_vret rfl (by decide +kernel : decode k_P_Ledger_enter.2.1 19 = .ok (.return_, 1)), hL⟩
  · refine ai (r_icmp_ge_f (pc := 6) 19 (by decide +kernel : decode k_P_Ledger_enter.2.1 6 = .ok (.if_icmp .ge (13), 3)) (by decide) c1) ?_
    refine ai (p_aload_n (pc := 9) (k := 0) (by decide +kernel : decode k_P_Ledger_enter.2.1 9 = .ok (.aload_n 0, 1)) rfl rfl) ?_
    refine ai (r_getI (pc := 10) (by decide +kernel : decode k_P_Ledger_enter.2.1 10 = .ok (.getfield 23, 3)) lg_4_23 (by decide) (PC_13 hL).1) ?_
    refine ai (r_sipush (pc := 13) (by decide +kernel : decode k_P_Ledger_enter.2.1 13 = .ok (.sipush (160), 3)) (by decide : _ = (160 : Int32))) ?_
    rcases ite_some h with ⟨c2, h⟩ | ⟨c2, h⟩
    · refine ai (r_icmp_lt_t (pc := 16) (tgt := 20) (by decide +kernel : decode k_P_Ledger_enter.2.1 16 = .ok (.if_icmp .lt (4), 3)) (by decide) c2) ?_
      refine ai (p_aload_n (pc := 20) (k := 0) (by decide +kernel : decode k_P_Ledger_enter.2.1 20 = .ok (.aload_n 0, 1)) rfl rfl) ?_
      obtain ⟨m3, hm3, h⟩ := vb_some h
      have hL : PL m3 := by rw [hm3]; exact PL.nw hL
      refine ai (p_new (pc := 21) hm3 (by decide +kernel : decode k_P_Ledger_enter.2.1 21 = .ok (.new 9, 3)) ln_4_9) ?_
      have t4 : mT m3 (mC m) = 1 := by rw [hm3]; exact up1_eq
      refine ai (r_dup (pc := 24) (by decide +kernel : decode k_P_Ledger_enter.2.1 24 = .ok (.dup, 1)) (rfl)) ?_
      obtain ⟨a5, rfl, hha5⟩ := gs_some h
      have h := hha5
      refine ai (p_aload_n (pc := 25) (k := 1) (by decide +kernel : decode k_P_Ledger_enter.2.1 25 = .ok (.aload_n 1, 1)) rfl rfl) ?_
      obtain ⟨t6, h⟩ := gt_some h
      refine ai (r_getI (pc := 26) (by decide +kernel : decode k_P_Ledger_enter.2.1 26 = .ok (.getfield 42, 3)) lg_4_42 (by decide) t6) ?_
      refine ai (r_iconst (pc := 29) (by decide +kernel : decode k_P_Ledger_enter.2.1 29 = .ok (.iconst 0, 1)) ic_0) ?_
      refine ai (p_aload_n (pc := 30) (k := 1) (by decide +kernel : decode k_P_Ledger_enter.2.1 30 = .ok (.aload_n 1, 1)) rfl rfl) ?_
      refine ai (r_getI (pc := 31) (by decide +kernel : decode k_P_Ledger_enter.2.1 31 = .ok (.getfield 55, 3)) lg_4_55 (by decide) t6) ?_
      refine ai (p_aload_n (pc := 34) (k := 1) (by decide +kernel : decode k_P_Ledger_enter.2.1 34 = .ok (.aload_n 1, 1)) rfl rfl) ?_
      refine ai (r_getI (pc := 35) (by decide +kernel : decode k_P_Ledger_enter.2.1 35 = .ok (.getfield 45, 3)) lg_4_45 (by decide) t6) ?_
      refine ai (r_iconst (pc := 38) (by decide +kernel : decode k_P_Ledger_enter.2.1 38 = .ok (.iconst 0, 1)) ic_0) ?_
      refine ai (r_iconst (pc := 39) (by decide +kernel : decode k_P_Ledger_enter.2.1 39 = .ok (.iconst 0, 1)) ic_0) ?_
      refine ai (p_aload_n (pc := 40) (k := 1) (by decide +kernel : decode k_P_Ledger_enter.2.1 40 = .ok (.aload_n 1, 1)) rfl rfl) ?_
      obtain ⟨r7, m8, hr7, h⟩ := bn_some h
      have q9 := P_Fact_init_run hL t4 hr7
      have hL := q9.2
      refine ai (q_callI (pc := 41) (As := [.int (mI m3 1280 a5), .int 0, .int (mI m3 1284 a5), .int (mI m3 1282 a5), .int 0, .int 0, .ref a5]) (st := [.ref (mC m), .ref 13]) (st2 := [.ref (mC m), .ref 13]) (b := mC m) rfl rfl (by decide +kernel : decode k_P_Ledger_enter.2.1 41 = .ok (.invokespecial 48, 3)) lc_4_48 mo_P_Fact_init ⟨Nat.le_of_ble_eq_true rfl, Nat.le_of_ble_eq_true rfl⟩ (Nat.le_of_ble_eq_true rfl) (Nat.le_of_ble_eq_true rfl) q9.1) ?_
      obtain ⟨r10, m11, hr10, h⟩ := bn_some h
      have q12 := P_Ledger_add_run hL hr10
      have c13 := (PC_13 hL).1
      have hL := q12.2
      refine ai (q_callV (pc := 44) (As := [.ref (mC m)]) (st := []) (st2 := [.int r10]) (b := 13) rfl rfl (by decide +kernel : decode k_P_Ledger_enter.2.1 44 = .ok (.invokevirtual 51, 3)) lc_4_51 mo_P_Ledger_add ⟨Nat.le_of_ble_eq_true rfl, Nat.le_of_ble_eq_true rfl⟩ (Nat.le_of_ble_eq_true rfl) (Nat.le_of_ble_eq_true rfl) c13 q12.1) ?_
      refine ai (r_pop (pc := 47) (by decide +kernel : decode k_P_Ledger_enter.2.1 47 = .ok (.pop, 1)) (rfl)) ?_
      refine ai (p_aload_n (pc := 48) (k := 0) (by decide +kernel : decode k_P_Ledger_enter.2.1 48 = .ok (.aload_n 0, 1)) rfl rfl) ?_
      refine ai (r_getI (pc := 49) (by decide +kernel : decode k_P_Ledger_enter.2.1 49 = .ok (.getfield 39, 3)) lg_4_39 (by decide) (PC_13 hL).1) ?_
      obtain ⟨v14, hv14, h⟩ := vb_some h
      refine ai (e_istore_n (pc := 52) hv14 (by decide +kernel : decode k_P_Ledger_enter.2.1 52 = .ok (.istore_n 2, 1)) rfl (by decide) rfl) ?_
      exact (ai (r_sub [1, 2, 0] rfl) (P_Ledger_enter_53_run hL h))
    · refine ai (r_icmp_lt_f (pc := 16) 20 (by decide +kernel : decode k_P_Ledger_enter.2.1 16 = .ok (.if_icmp .lt (4), 3)) (by decide) c2) ?_
      cases h
      exact ⟨r_vret rfl (by decide +kernel : decode k_P_Ledger_enter.2.1 19 = .ok (.return_, 1)), hL⟩
set_option maxRecDepth 100000 in
set_option maxHeartbeats 4000000 in
theorem P_read_101_run {m m' : Mem} {r : Int32} (hL : PL m) (h : P_read_101 m = some (r, m')) : Run k_P_read 101 [(0, .ref 0)] [] m (some (.int r)) m' ∧ PL m' := by
  unfold P_read_101 at h
  refine ai (p_aload_n (pc := 101) (k := 0) (by decide +kernel : decode k_P_read.2.1 101 = .ok (.aload_n 0, 1)) rfl rfl) ?_
  refine ai (p_getr (pc := 102) (PR_1411_0 hL) (by decide +kernel : decode k_P_read.2.1 102 = .ok (.getfield 42, 3)) lg_11_42 (PC_0 hL).1) ?_
  refine ai (r_getI (pc := 105) (by decide +kernel : decode k_P_read.2.1 105 = .ok (.getfield 103, 3)) lg_11_103 (by decide) (PC_22 hL).1) ?_
  cases h
  exact ⟨r_iret rfl (by decide +kernel : decode k_P_read.2.1 108 = .ok (.ireturn, 1)), hL⟩
set_option maxRecDepth 100000 in
set_option maxHeartbeats 4000000 in
theorem P_read_60_run {s0 : Int32} {m m' : Mem} {r : Int32} (hL : PL m) (h : P_read_60 s0 m = some (r, m')) : Run k_P_read 60 [(0, .ref 0)] [.int s0] m (some (.int r)) m' ∧ PL m' := by
  unfold P_read_60 at h
  refine ai (e_istore_n (pc := 60) rfl (by decide +kernel : decode k_P_read.2.1 60 = .ok (.istore_n 1, 1)) rfl (by decide) rfl) ?_
  refine ai (p_aload_n (pc := 61) (k := 1) (by decide +kernel : decode k_P_read.2.1 61 = .ok (.aload_n 0, 1)) rfl rfl) ?_
  refine ai (p_getr (pc := 62) (PR_1411_0 hL) (by decide +kernel : decode k_P_read.2.1 62 = .ok (.getfield 42, 3)) lg_11_42 (PC_0 hL).1) ?_
  refine ai (r_iload_n (pc := 65) (k := 0) (by decide +kernel : decode k_P_read.2.1 65 = .ok (.iload_n 1, 1)) rfl rfl) ?_
  obtain ⟨r1, m2, hr1, h⟩ := bn_some h
  have q3 := P_Parser_finish_run hL hr1
  have c4 := (PC_22 hL).1
  have hL := q3.2
  refine ai (q_callV (pc := 66) (As := [.int s0]) (st := []) (st2 := [va_rf r1]) (b := 22) rfl rfl (by decide +kernel : decode k_P_read.2.1 66 = .ok (.invokevirtual 94, 3)) lc_11_94 mo_P_Parser_finish ⟨Nat.le_of_ble_eq_true rfl, Nat.le_of_ble_eq_true rfl⟩ (Nat.le_of_ble_eq_true rfl) (Nat.le_of_ble_eq_true rfl) c4 q3.1) ?_
  refine ai (r_astore_n (pc := 69) (by decide +kernel : decode k_P_read.2.1 69 = .ok (.astore_n 2, 1)) rfl (by decide) rfl) ?_
  refine ai (p_aload_n (pc := 70) (k := 2) (by decide +kernel : decode k_P_read.2.1 70 = .ok (.aload_n 0, 1)) rfl rfl) ?_
  refine ai (p_getr (pc := 71) (PR_1410_0 hL) (by decide +kernel : decode k_P_read.2.1 71 = .ok (.getfield 33, 3)) lg_11_33 (PC_0 hL).1) ?_
  refine ai (r_iconst (pc := 74) (by decide +kernel : decode k_P_read.2.1 74 = .ok (.iconst 0, 1)) ic_0) ?_
  have c5 := (PC_16 hL).1
  obtain ⟨m6, hm6, h⟩ := vb_some h
  have hL : PL m6 := by rw [hm6]; exact hL
  refine ai (p_putI (pc := 75) hm6 (by decide +kernel : decode k_P_read.2.1 75 = .ok (.putfield 71, 3)) lp_11_71 c5) ?_
  refine ai (p_aload_n (pc := 78) (k := 2) (by decide +kernel : decode k_P_read.2.1 78 = .ok (.aload_n 0, 1)) rfl rfl) ?_
  refine ai (p_aload_n (pc := 79) (k := 2) (by decide +kernel : decode k_P_read.2.1 79 = .ok (.aload_n 0, 1)) rfl rfl) ?_
  refine ai (p_getr (pc := 80) (PR_1411_0 hL) (by decide +kernel : decode k_P_read.2.1 80 = .ok (.getfield 42, 3)) lg_11_42 (PC_0 hL).1) ?_
  refine ai (r_getI (pc := 83) (by decide +kernel : decode k_P_read.2.1 83 = .ok (.getfield 98, 3)) lg_11_98 (by decide) (PC_22 hL).1) ?_
  have c7 := (PC_0 hL).1
  obtain ⟨m8, hm8, h⟩ := vb_some h
  have hL : PL m8 := by rw [hm8]; exact hL
  refine ai (p_putI (pc := 86) hm8 (by decide +kernel : decode k_P_read.2.1 86 = .ok (.putfield 9, 3)) lp_11_9 c7) ?_
  refine ai (r_aload_n (pc := 89) (k := 0) (by decide +kernel : decode k_P_read.2.1 89 = .ok (.aload_n 2, 1)) rfl rfl) ?_
  rcases ite_some h with ⟨c9, h⟩ | ⟨c9, h⟩
  · refine ai (d_ifnull_t (pc := 90) (tgt := 101) c9 (by decide +kernel : decode k_P_read.2.1 90 = .ok (.ifnull (11), 3)) (by decide)) ?_
    exact (ai (r_sub [2] rfl) (P_read_101_run hL h))
  · refine ai (d_ifnull_f (pc := 90) c9 (by decide +kernel : decode k_P_read.2.1 90 = .ok (.ifnull (11), 3))) ?_
    refine ai (p_aload_n (pc := 93) (k := 2) (by decide +kernel : decode k_P_read.2.1 93 = .ok (.aload_n 0, 1)) rfl rfl) ?_
    refine ai (p_getr (pc := 94) (PR_1409_0 hL) (by decide +kernel : decode k_P_read.2.1 94 = .ok (.getfield 26, 3)) lg_11_26 (PC_0 hL).1) ?_
    refine ai (r_aload_n (pc := 97) (k := 0) (by decide +kernel : decode k_P_read.2.1 97 = .ok (.aload_n 2, 1)) rfl rfl) ?_
    obtain ⟨r10, m11, hr10, h⟩ := bn_some h
    have q12 := P_Ledger_enter_run hL hr10
    have c13 := (PC_13 hL).1
    have hL := q12.2
    refine ai (q_callV (pc := 98) (As := [va_rf r1]) (st := []) (st2 := []) (b := 13) (by simp [lv_args, vrc, vrs, cti, ctr, ctl, ctn, cta]) rfl (by decide +kernel : decode k_P_read.2.1 98 = .ok (.invokevirtual 99, 3)) lc_11_99 mo_P_Ledger_enter ⟨Nat.le_of_ble_eq_true rfl, Nat.le_of_ble_eq_true rfl⟩ (by simp [lg_sl, vrc, vrs, cti, ctr, ctl, ctn, cta, k_P_Ledger_enter]) (Nat.le_of_ble_eq_true rfl) c13 q12.1) ?_
    exact (ai (r_sub [2] rfl) (P_read_101_run hL h))
set_option maxRecDepth 100000 in
set_option maxHeartbeats 4000000 in
theorem P_read_59_run {m m' : Mem} {r : Int32} (hL : PL m) (h : P_read_59 m = some (r, m')) : Run k_P_read 59 [(0, .ref 0)] [] m (some (.int r)) m' ∧ PL m' := by
  unfold P_read_59 at h
  refine ai (r_iconst (pc := 59) (by decide +kernel : decode k_P_read.2.1 59 = .ok (.iconst 0, 1)) ic_0) ?_
  exact (P_read_60_run hL h)
set_option maxRecDepth 100000 in
set_option maxHeartbeats 4000000 in
theorem P_read_run {m m' : Mem} {r : Int32} (hL : PL m) (h : P_read m = some (r, m')) : Run k_P_read 0 [(0, .ref 0)] [] m (some (.int r)) m' ∧ PL m' := by
  unfold P_read at h
  refine ai (p_aload_n (pc := 0) (k := 0) (by decide +kernel : decode k_P_read.2.1 0 = .ok (.aload_n 0, 1)) rfl rfl) ?_
  refine ai (p_getr (pc := 1) (PR_1409_0 hL) (by decide +kernel : decode k_P_read.2.1 1 = .ok (.getfield 26, 3)) lg_11_26 (PC_0 hL).1) ?_
  refine ai (r_getI (pc := 4) (by decide +kernel : decode k_P_read.2.1 4 = .ok (.getfield 78, 3)) lg_11_78 (by decide) (PC_13 hL).1) ?_
  refine ai (r_sipush (pc := 7) (by decide +kernel : decode k_P_read.2.1 7 = .ok (.sipush (160), 3)) (by decide : _ = (160 : Int32))) ?_
  rcases ite_some h with ⟨c1, h⟩ | ⟨c1, h⟩
  · refine ai (r_icmp_ge_t (pc := 10) (tgt := 25) (by decide +kernel : decode k_P_read.2.1 10 = .ok (.if_icmp .ge (15), 3)) (by decide) c1) ?_
    refine ai (r_bipush (pc := 25) (by decide +kernel : decode k_P_read.2.1 25 = .ok (.bipush (-2), 2)) (by decide : _ = (-2 : Int32))) ?_
    cases h
    exact ⟨r_iret rfl (by decide +kernel : decode k_P_read.2.1 27 = .ok (.ireturn, 1)), hL⟩
  · refine ai (r_icmp_ge_f (pc := 10) 25 (by decide +kernel : decode k_P_read.2.1 10 = .ok (.if_icmp .ge (15), 3)) (by decide) c1) ?_
    refine ai (p_aload_n (pc := 13) (k := 0) (by decide +kernel : decode k_P_read.2.1 13 = .ok (.aload_n 0, 1)) rfl rfl) ?_
    refine ai (p_getr (pc := 14) (PR_1409_0 hL) (by decide +kernel : decode k_P_read.2.1 14 = .ok (.getfield 26, 3)) lg_11_26 (PC_0 hL).1) ?_
    refine ai (r_getI (pc := 17) (by decide +kernel : decode k_P_read.2.1 17 = .ok (.getfield 81, 3)) lg_11_81 (by decide) (PC_13 hL).1) ?_
    refine ai (r_bipush (pc := 20) (by decide +kernel : decode k_P_read.2.1 20 = .ok (.bipush (24), 2)) (by decide : _ = (24 : Int32))) ?_
    rcases ite_some h with ⟨c2, h⟩ | ⟨c2, h⟩
    · refine ai (r_icmp_lt_t (pc := 22) (tgt := 28) (by decide +kernel : decode k_P_read.2.1 22 = .ok (.if_icmp .lt (6), 3)) (by decide) c2) ?_
      refine ai (p_aload_n (pc := 28) (k := 0) (by decide +kernel : decode k_P_read.2.1 28 = .ok (.aload_n 0, 1)) rfl rfl) ?_
      refine ai (p_getr (pc := 29) (PR_1411_0 hL) (by decide +kernel : decode k_P_read.2.1 29 = .ok (.getfield 42, 3)) lg_11_42 (PC_0 hL).1) ?_
      obtain ⟨r3, m4, hr3, h⟩ := bn_some h
      have q5 := P_Parser_begin_run hL hr3
      have c6 := (PC_22 hL).1
      have hL := q5.2
      refine ai (q_callV (pc := 32) (As := []) (st := []) (st2 := []) (b := 22) rfl rfl (by decide +kernel : decode k_P_read.2.1 32 = .ok (.invokevirtual 84, 3)) lc_11_84 mo_P_Parser_begin ⟨Nat.le_of_ble_eq_true rfl, Nat.le_of_ble_eq_true rfl⟩ (Nat.le_of_ble_eq_true rfl) (Nat.le_of_ble_eq_true rfl) c6 q5.1) ?_
      refine ai (p_aload_n (pc := 35) (k := 0) (by decide +kernel : decode k_P_read.2.1 35 = .ok (.aload_n 0, 1)) rfl rfl) ?_
      refine ai (p_getr (pc := 36) (PR_1411_0 hL) (by decide +kernel : decode k_P_read.2.1 36 = .ok (.getfield 42, 3)) lg_11_42 (PC_0 hL).1) ?_
      obtain ⟨r7, m8, hr7, h⟩ := bn_some h
      have q9 := P_Parser_takeHead_run hL hr7
      have c10 := (PC_22 hL).1
      have hL := q9.2
      refine ai (q_callV (pc := 39) (As := []) (st := []) (st2 := [.int r7]) (b := 22) rfl rfl (by decide +kernel : decode k_P_read.2.1 39 = .ok (.invokevirtual 87, 3)) lc_11_87 mo_P_Parser_takeHead ⟨Nat.le_of_ble_eq_true rfl, Nat.le_of_ble_eq_true rfl⟩ (Nat.le_of_ble_eq_true rfl) (Nat.le_of_ble_eq_true rfl) c10 q9.1) ?_
      rcases ite_some h with ⟨c11, h⟩ | ⟨c11, h⟩
      · refine ai (r_if_eq_t (pc := 42) (tgt := 59) (by decide +kernel : decode k_P_read.2.1 42 = .ok (.ifCond .eq (17), 3)) (by decide) c11) ?_
        exact (P_read_59_run hL h)
      · refine ai (r_if_eq_f (pc := 42) 59 (by decide +kernel : decode k_P_read.2.1 42 = .ok (.ifCond .eq (17), 3)) (by decide) c11) ?_
        refine ai (p_aload_n (pc := 45) (k := 0) (by decide +kernel : decode k_P_read.2.1 45 = .ok (.aload_n 0, 1)) rfl rfl) ?_
        refine ai (p_getr (pc := 46) (PR_1411_0 hL) (by decide +kernel : decode k_P_read.2.1 46 = .ok (.getfield 42, 3)) lg_11_42 (PC_0 hL).1) ?_
        obtain ⟨r12, m13, hr12, h⟩ := bn_some h
        have q14 := P_Parser_takeItems_run hL hr12
        have c15 := (PC_22 hL).1
        have hL := q14.2
        refine ai (q_callV (pc := 49) (As := []) (st := []) (st2 := [.int r12]) (b := 22) rfl rfl (by decide +kernel : decode k_P_read.2.1 49 = .ok (.invokevirtual 91, 3)) lc_11_91 mo_P_Parser_takeItems ⟨Nat.le_of_ble_eq_true rfl, Nat.le_of_ble_eq_true rfl⟩ (Nat.le_of_ble_eq_true rfl) (Nat.le_of_ble_eq_true rfl) c15 q14.1) ?_
        rcases ite_some h with ⟨c16, h⟩ | ⟨c16, h⟩
        · refine ai (r_if_eq_t (pc := 52) (tgt := 59) (by decide +kernel : decode k_P_read.2.1 52 = .ok (.ifCond .eq (7), 3)) (by decide) c16) ?_
          exact (P_read_59_run hL h)
        · refine ai (r_if_eq_f (pc := 52) 59 (by decide +kernel : decode k_P_read.2.1 52 = .ok (.ifCond .eq (7), 3)) (by decide) c16) ?_
          refine ai (r_iconst (pc := 55) (by decide +kernel : decode k_P_read.2.1 55 = .ok (.iconst 1, 1)) ic_1) ?_
          refine ai (r_goto (pc := 56) (tgt := 60) (by decide +kernel : decode k_P_read.2.1 56 = .ok (.goto (4), 3)) (by decide)) ?_
          exact (P_read_60_run hL h)
    · refine ai (r_icmp_lt_f (pc := 22) 28 (by decide +kernel : decode k_P_read.2.1 22 = .ok (.if_icmp .lt (6), 3)) (by decide) c2) ?_
      refine ai (r_bipush (pc := 25) (by decide +kernel : decode k_P_read.2.1 25 = .ok (.bipush (-2), 2)) (by decide : _ = (-2 : Int32))) ?_
      cases h
      exact ⟨r_iret rfl (by decide +kernel : decode k_P_read.2.1 27 = .ok (.ireturn, 1)), hL⟩
set_option maxRecDepth 100000 in
set_option maxHeartbeats 4000000 in
theorem P_place_run {m m' : Mem} {r : Int32} (hL : PL m) (h : P_place m = some (r, m')) : Run k_P_place 0 [(0, .ref 0)] [] m (some (.int r)) m' ∧ PL m' := by
  unfold P_place at h
  refine ai (p_aload_n (pc := 0) (k := 0) (by decide +kernel : decode k_P_place.2.1 0 = .ok (.aload_n 0, 1)) rfl rfl) ?_
  refine ai (r_getI (pc := 1) (by decide +kernel : decode k_P_place.2.1 1 = .ok (.getfield 9, 3)) lg_11_9 (by decide) (PC_0 hL).1) ?_
  cases h
  exact ⟨r_iret rfl (by decide +kernel : decode k_P_place.2.1 4 = .ok (.ireturn, 1)), hL⟩
set_option maxRecDepth 100000 in
set_option maxHeartbeats 4000000 in
theorem P_Parser_numberOfOnly_run {m m' : Mem} {r : Int32} (hL : PL m) (h : P_Parser_numberOfOnly m = some (r, m')) : Run k_P_Parser_numberOfOnly 0 [(0, .ref 22)] [] m (some (.int r)) m' ∧ PL m' := by
  unfold P_Parser_numberOfOnly at h
  refine ai (p_aload_n (pc := 0) (k := 0) (by decide +kernel : decode k_P_Parser_numberOfOnly.2.1 0 = .ok (.aload_n 0, 1)) rfl rfl) ?_
  refine ai (p_getr (pc := 1) (PR_768_22 hL) (by decide +kernel : decode k_P_Parser_numberOfOnly.2.1 1 = .ok (.getfield 25, 3)) lg_6_25 (PC_22 hL).1) ?_
  obtain ⟨r1, m2, hr1, h⟩ := bn_some h
  have q3 := P_Lexer_scan_run hL hr1
  have c4 := (PC_16 hL).1
  have hL := q3.2
  refine ai (q_callV (pc := 4) (As := []) (st := []) (st2 := []) (b := 16) rfl rfl (by decide +kernel : decode k_P_Parser_numberOfOnly.2.1 4 = .ok (.invokevirtual 37, 3)) lc_6_37 mo_P_Lexer_scan ⟨Nat.le_of_ble_eq_true rfl, Nat.le_of_ble_eq_true rfl⟩ (Nat.le_of_ble_eq_true rfl) (Nat.le_of_ble_eq_true rfl) c4 q3.1) ?_
  refine ai (p_aload_n (pc := 7) (k := 0) (by decide +kernel : decode k_P_Parser_numberOfOnly.2.1 7 = .ok (.aload_n 0, 1)) rfl rfl) ?_
  refine ai (p_getr (pc := 8) (PR_768_22 hL) (by decide +kernel : decode k_P_Parser_numberOfOnly.2.1 8 = .ok (.getfield 25, 3)) lg_6_25 (PC_22 hL).1) ?_
  refine ai (p_getr (pc := 11) (PR_642_16 hL) (by decide +kernel : decode k_P_Parser_numberOfOnly.2.1 11 = .ok (.getfield 42, 3)) lg_6_42 (PC_16 hL).1) ?_
  refine ai (r_iconst (pc := 14) (by decide +kernel : decode k_P_Parser_numberOfOnly.2.1 14 = .ok (.iconst 0, 1)) ic_0) ?_
  obtain ⟨g5, h⟩ := gd_some h
  refine ai (p_iald (pc := 15) (by decide +kernel : decode k_P_Parser_numberOfOnly.2.1 15 = .ok (.iaload, 1)) (PC_18 hL).1 (PC_18 hL).2 g5) ?_
  refine ai (r_iconst (pc := 16) (by decide +kernel : decode k_P_Parser_numberOfOnly.2.1 16 = .ok (.iconst 2, 1)) ic_2) ?_
  rcases ite_some h with ⟨c6, h⟩ | ⟨c6, h⟩
  · refine ai (r_icmp_ne_f (pc := 17) 32 (by decide +kernel : decode k_P_Parser_numberOfOnly.2.1 17 = .ok (.if_icmp .ne (15), 3)) (by decide) c6) ?_
    refine ai (p_aload_n (pc := 20) (k := 0) (by decide +kernel : decode k_P_Parser_numberOfOnly.2.1 20 = .ok (.aload_n 0, 1)) rfl rfl) ?_
    refine ai (p_getr (pc := 21) (PR_768_22 hL) (by decide +kernel : decode k_P_Parser_numberOfOnly.2.1 21 = .ok (.getfield 25, 3)) lg_6_25 (PC_22 hL).1) ?_
    refine ai (p_getr (pc := 24) (PR_642_16 hL) (by decide +kernel : decode k_P_Parser_numberOfOnly.2.1 24 = .ok (.getfield 42, 3)) lg_6_42 (PC_16 hL).1) ?_
    refine ai (r_iconst (pc := 27) (by decide +kernel : decode k_P_Parser_numberOfOnly.2.1 27 = .ok (.iconst 1, 1)) ic_1) ?_
    obtain ⟨g7, h⟩ := gd_some h
    refine ai (p_iald (pc := 28) (by decide +kernel : decode k_P_Parser_numberOfOnly.2.1 28 = .ok (.iaload, 1)) (PC_18 hL).1 (PC_18 hL).2 g7) ?_
    rcases ite_some h with ⟨c8, h⟩ | ⟨c8, h⟩
    · refine ai (r_if_eq_t (pc := 29) (tgt := 34) (by decide +kernel : decode k_P_Parser_numberOfOnly.2.1 29 = .ok (.ifCond .eq (5), 3)) (by decide) c8) ?_
      refine ai (p_aload_n (pc := 34) (k := 0) (by decide +kernel : decode k_P_Parser_numberOfOnly.2.1 34 = .ok (.aload_n 0, 1)) rfl rfl) ?_
      refine ai (p_aload_n (pc := 35) (k := 0) (by decide +kernel : decode k_P_Parser_numberOfOnly.2.1 35 = .ok (.aload_n 0, 1)) rfl rfl) ?_
      refine ai (p_getr (pc := 36) (PR_768_22 hL) (by decide +kernel : decode k_P_Parser_numberOfOnly.2.1 36 = .ok (.getfield 25, 3)) lg_6_25 (PC_22 hL).1) ?_
      refine ai (p_getr (pc := 39) (PR_644_16 hL) (by decide +kernel : decode k_P_Parser_numberOfOnly.2.1 39 = .ok (.getfield 46, 3)) lg_6_46 (PC_16 hL).1) ?_
      refine ai (r_iconst (pc := 42) (by decide +kernel : decode k_P_Parser_numberOfOnly.2.1 42 = .ok (.iconst 0, 1)) ic_0) ?_
      obtain ⟨g9, h⟩ := gd_some h
      refine ai (p_lald (pc := 43) (by decide +kernel : decode k_P_Parser_numberOfOnly.2.1 43 = .ok (.laload, 1)) (PC_20 hL).1 (PC_20 hL).2 g9) ?_
      obtain ⟨r10, m11, hr10, h⟩ := bn_some h
      have q12 := P_Parser_numberOf_run hL hr10
      have c13 := (PC_22 hL).1
      have hL := q12.2
      refine ai (q_callV (pc := 44) (As := [.long (aL m2 20 (ix 0))]) (st := []) (st2 := [.int r10]) (b := 22) rfl rfl (by decide +kernel : decode k_P_Parser_numberOfOnly.2.1 44 = .ok (.invokevirtual 49, 3)) lc_6_49 mo_P_Parser_numberOf ⟨Nat.le_of_ble_eq_true rfl, Nat.le_of_ble_eq_true rfl⟩ (Nat.le_of_ble_eq_true rfl) (Nat.le_of_ble_eq_true rfl) c13 q12.1) ?_
      cases h
      exact ⟨r_iret rfl (by decide +kernel : decode k_P_Parser_numberOfOnly.2.1 47 = .ok (.ireturn, 1)), hL⟩
    · refine ai (r_if_eq_f (pc := 29) 34 (by decide +kernel : decode k_P_Parser_numberOfOnly.2.1 29 = .ok (.ifCond .eq (5), 3)) (by decide) c8) ?_
      refine ai (r_iconst (pc := 32) (by decide +kernel : decode k_P_Parser_numberOfOnly.2.1 32 = .ok (.iconst (-1), 1)) ic_m1) ?_
      cases h
      exact ⟨r_iret rfl (by decide +kernel : decode k_P_Parser_numberOfOnly.2.1 33 = .ok (.ireturn, 1)), hL⟩
  · refine ai (r_icmp_ne_t (pc := 17) (tgt := 32) (by decide +kernel : decode k_P_Parser_numberOfOnly.2.1 17 = .ok (.if_icmp .ne (15), 3)) (by decide) c6) ?_
    refine ai (r_iconst (pc := 32) (by decide +kernel : decode k_P_Parser_numberOfOnly.2.1 32 = .ok (.iconst (-1), 1)) ic_m1) ?_
    cases h
    exact ⟨r_iret rfl (by decide +kernel : decode k_P_Parser_numberOfOnly.2.1 33 = .ok (.ireturn, 1)), hL⟩
set_option maxRecDepth 100000 in
set_option maxHeartbeats 4000000 in
theorem P_named_run {m m' : Mem} {r : Int32} (hL : PL m) (h : P_named m = some (r, m')) : Run k_P_named 0 [(0, .ref 0)] [] m (some (.int r)) m' ∧ PL m' := by
  unfold P_named at h
  refine ai (p_aload_n (pc := 0) (k := 0) (by decide +kernel : decode k_P_named.2.1 0 = .ok (.aload_n 0, 1)) rfl rfl) ?_
  refine ai (p_getr (pc := 1) (PR_1411_0 hL) (by decide +kernel : decode k_P_named.2.1 1 = .ok (.getfield 42, 3)) lg_11_42 (PC_0 hL).1) ?_
  obtain ⟨r1, m2, hr1, h⟩ := bn_some h
  have q3 := P_Parser_numberOfOnly_run hL hr1
  have c4 := (PC_22 hL).1
  have hL := q3.2
  refine ai (q_callV (pc := 4) (As := []) (st := []) (st2 := [.int r1]) (b := 22) rfl rfl (by decide +kernel : decode k_P_named.2.1 4 = .ok (.invokevirtual 106, 3)) lc_11_106 mo_P_Parser_numberOfOnly ⟨Nat.le_of_ble_eq_true rfl, Nat.le_of_ble_eq_true rfl⟩ (Nat.le_of_ble_eq_true rfl) (Nat.le_of_ble_eq_true rfl) c4 q3.1) ?_
  refine ai (e_istore_n (pc := 7) rfl (by decide +kernel : decode k_P_named.2.1 7 = .ok (.istore_n 1, 1)) rfl (by decide) rfl) ?_
  refine ai (p_aload_n (pc := 8) (k := 1) (by decide +kernel : decode k_P_named.2.1 8 = .ok (.aload_n 0, 1)) rfl rfl) ?_
  refine ai (p_getr (pc := 9) (PR_1410_0 hL) (by decide +kernel : decode k_P_named.2.1 9 = .ok (.getfield 33, 3)) lg_11_33 (PC_0 hL).1) ?_
  refine ai (r_iconst (pc := 12) (by decide +kernel : decode k_P_named.2.1 12 = .ok (.iconst 0, 1)) ic_0) ?_
  have c5 := (PC_16 hL).1
  obtain ⟨m6, hm6, h⟩ := vb_some h
  have hL : PL m6 := by rw [hm6]; exact hL
  refine ai (p_putI (pc := 13) hm6 (by decide +kernel : decode k_P_named.2.1 13 = .ok (.putfield 71, 3)) lp_11_71 c5) ?_
  refine ai (r_iload_n (pc := 16) (k := 0) (by decide +kernel : decode k_P_named.2.1 16 = .ok (.iload_n 1, 1)) rfl rfl) ?_
  cases h
  exact ⟨r_iret rfl (by decide +kernel : decode k_P_named.2.1 17 = .ok (.ireturn, 1)), hL⟩
set_option maxRecDepth 100000 in
set_option maxHeartbeats 4000000 in
theorem P_town_run {m m' : Mem} {r : Int32} (hL : PL m) (h : P_town m = some (r, m')) : Run k_P_town 0 [(0, .ref 0)] [] m (some (.int r)) m' ∧ PL m' := by
  unfold P_town at h
  refine ai (p_aload_n (pc := 0) (k := 0) (by decide +kernel : decode k_P_town.2.1 0 = .ok (.aload_n 0, 1)) rfl rfl) ?_
  refine ai (p_getr (pc := 1) (PR_1408_0 hL) (by decide +kernel : decode k_P_town.2.1 1 = .ok (.getfield 19, 3)) lg_11_19 (PC_0 hL).1) ?_
  refine ai (r_getI (pc := 4) (by decide +kernel : decode k_P_town.2.1 4 = .ok (.getfield 110, 3)) lg_11_110 (by decide) (PC_5 hL).1) ?_
  refine ai (r_iconst (pc := 7) (by decide +kernel : decode k_P_town.2.1 7 = .ok (.iconst 5, 1)) ic_5) ?_
  rcases ite_some h with ⟨c1, h⟩ | ⟨c1, h⟩
  · refine ai (r_icmp_lt_t (pc := 8) (tgt := 13) (by decide +kernel : decode k_P_town.2.1 8 = .ok (.if_icmp .lt (5), 3)) (by decide) c1) ?_
    refine ai (p_aload_n (pc := 13) (k := 0) (by decide +kernel : decode k_P_town.2.1 13 = .ok (.aload_n 0, 1)) rfl rfl) ?_
    refine ai (p_getr (pc := 14) (PR_1408_0 hL) (by decide +kernel : decode k_P_town.2.1 14 = .ok (.getfield 19, 3)) lg_11_19 (PC_0 hL).1) ?_
    refine ai (r_dup (pc := 17) (by decide +kernel : decode k_P_town.2.1 17 = .ok (.dup, 1)) (rfl)) ?_
    refine ai (r_getI (pc := 18) (by decide +kernel : decode k_P_town.2.1 18 = .ok (.getfield 110, 3)) lg_11_110 (by decide) (PC_5 hL).1) ?_
    refine ai (r_iconst (pc := 21) (by decide +kernel : decode k_P_town.2.1 21 = .ok (.iconst 1, 1)) ic_1) ?_
    refine ai (r_iadd (pc := 22) (by decide +kernel : decode k_P_town.2.1 22 = .ok (.iadd, 1))) ?_
    have c2 := (PC_5 hL).1
    obtain ⟨m3, hm3, h⟩ := vb_some h
    have hL : PL m3 := by rw [hm3]; exact hL
    refine ai (p_putI (pc := 23) hm3 (by decide +kernel : decode k_P_town.2.1 23 = .ok (.putfield 110, 3)) lp_11_110 c2) ?_
    refine ai (p_aload_n (pc := 26) (k := 0) (by decide +kernel : decode k_P_town.2.1 26 = .ok (.aload_n 0, 1)) rfl rfl) ?_
    refine ai (p_getr (pc := 27) (PR_1408_0 hL) (by decide +kernel : decode k_P_town.2.1 27 = .ok (.getfield 19, 3)) lg_11_19 (PC_0 hL).1) ?_
    refine ai (r_getI (pc := 30) (by decide +kernel : decode k_P_town.2.1 30 = .ok (.getfield 110, 3)) lg_11_110 (by decide) (PC_5 hL).1) ?_
    refine ai (r_iconst (pc := 33) (by decide +kernel : decode k_P_town.2.1 33 = .ok (.iconst 1, 1)) ic_1) ?_
    refine ai (r_isub (pc := 34) (by decide +kernel : decode k_P_town.2.1 34 = .ok (.isub, 1))) ?_
    cases h
    exact ⟨r_iret rfl (by decide +kernel : decode k_P_town.2.1 35 = .ok (.ireturn, 1)), hL⟩
  · refine ai (r_icmp_lt_f (pc := 8) 13 (by decide +kernel : decode k_P_town.2.1 8 = .ok (.if_icmp .lt (5), 3)) (by decide) c1) ?_
    refine ai (r_iconst (pc := 11) (by decide +kernel : decode k_P_town.2.1 11 = .ok (.iconst (-1), 1)) ic_m1) ?_
    cases h
    exact ⟨r_iret rfl (by decide +kernel : decode k_P_town.2.1 12 = .ok (.ireturn, 1)), hL⟩
set_option maxRecDepth 100000 in
set_option maxHeartbeats 4000000 in
theorem P_Land_hasTown_run {x1 : Int32} {m m' : Mem} {r : Int32} (hL : PL m) (h : P_Land_hasTown x1 m = some (r, m')) : Run k_P_Land_hasTown 0 [(0, .ref 5), (1, .int x1)] [] m (some (.int r)) m' ∧ PL m' := by
  unfold P_Land_hasTown at h
  refine ai (r_iload_n (pc := 0) (k := 1) (by decide +kernel : decode k_P_Land_hasTown.2.1 0 = .ok (.iload_n 1, 1)) rfl rfl) ?_
  refine ai (r_iconst (pc := 1) (by decide +kernel : decode k_P_Land_hasTown.2.1 1 = .ok (.iconst 0, 1)) ic_0) ?_
  refine ai (p_aload_n (pc := 2) (k := 0) (by decide +kernel : decode k_P_Land_hasTown.2.1 2 = .ok (.aload_n 0, 1)) rfl rfl) ?_
  refine ai (r_getI (pc := 3) (by decide +kernel : decode k_P_Land_hasTown.2.1 3 = .ok (.getfield 39, 3)) lg_3_39 (by decide) (PC_5 hL).1) ?_
  refine ai (r_iconst (pc := 6) (by decide +kernel : decode k_P_Land_hasTown.2.1 6 = .ok (.iconst 1, 1)) ic_1) ?_
  refine ai (r_isub (pc := 7) (by decide +kernel : decode k_P_Land_hasTown.2.1 7 = .ok (.isub, 1))) ?_
  obtain ⟨r1, hr1, h⟩ := bp_some h
  refine ai (q_callSN (pc := 8) (As := [.int x1, .int 0, .int ((mI m 384 5) - 1)]) (st := []) (st2 := [.int r1]) rfl rfl (by decide +kernel : decode k_P_Land_hasTown.2.1 8 = .ok (.invokestatic 43, 3)) lc_3_43 mo_P_within ⟨Nat.le_of_ble_eq_true rfl, Nat.le_of_ble_eq_true rfl⟩ (Nat.le_of_ble_eq_true rfl) (Nat.le_of_ble_eq_true rfl) (P_within_run hr1)) ?_
  obtain ⟨z2, h⟩ := gz_some h
  cases h
  exact ⟨r_zret z2 rfl (by decide +kernel : decode k_P_Land_hasTown.2.1 11 = .ok (.ireturn, 1)), hL⟩
set_option maxRecDepth 100000 in
set_option maxHeartbeats 4000000 in
theorem P_Land_addFirm_run {x1 : Int32} {x2 : Int32} {m m' : Mem} {r : Int32} (hL : PL m) (h : P_Land_addFirm x1 x2 m = some (r, m')) : Run k_P_Land_addFirm 0 [(0, .ref 5), (1, .int x1), (2, .int x2)] [] m (some (.int r)) m' ∧ PL m' := by
  unfold P_Land_addFirm at h
  refine ai (p_aload_n (pc := 0) (k := 0) (by decide +kernel : decode k_P_Land_addFirm.2.1 0 = .ok (.aload_n 0, 1)) rfl rfl) ?_
  refine ai (r_getI (pc := 1) (by decide +kernel : decode k_P_Land_addFirm.2.1 1 = .ok (.getfield 47, 3)) lg_3_47 (by decide) (PC_5 hL).1) ?_
  refine ai (r_bipush (pc := 4) (by decide +kernel : decode k_P_Land_addFirm.2.1 4 = .ok (.bipush (8), 2)) (by decide : _ = (8 : Int32))) ?_
  rcases ite_some h with ⟨c1, h⟩ | ⟨c1, h⟩
  · refine ai (r_icmp_lt_t (pc := 6) (tgt := 11) (by decide +kernel : decode k_P_Land_addFirm.2.1 6 = .ok (.if_icmp .lt (5), 3)) (by decide) c1) ?_
    refine ai (p_aload_n (pc := 11) (k := 0) (by decide +kernel : decode k_P_Land_addFirm.2.1 11 = .ok (.aload_n 0, 1)) rfl rfl) ?_
    refine ai (p_getr (pc := 12) (PR_387_5 hL) (by decide +kernel : decode k_P_Land_addFirm.2.1 12 = .ok (.getfield 9, 3)) lg_3_9 (PC_5 hL).1) ?_
    refine ai (p_aload_n (pc := 15) (k := 0) (by decide +kernel : decode k_P_Land_addFirm.2.1 15 = .ok (.aload_n 0, 1)) rfl rfl) ?_
    refine ai (r_getI (pc := 16) (by decide +kernel : decode k_P_Land_addFirm.2.1 16 = .ok (.getfield 47, 3)) lg_3_47 (by decide) (PC_5 hL).1) ?_
    refine ai (r_iload_n (pc := 19) (k := 1) (by decide +kernel : decode k_P_Land_addFirm.2.1 19 = .ok (.iload_n 1, 1)) rfl rfl) ?_
    obtain ⟨g2, h⟩ := gd_some h
    have c3 := (PC_6 hL).1
    have c4 := (PC_6 hL).2
    obtain ⟨m5, hm5, h⟩ := vb_some h
    have hL : PL m5 := by rw [hm5]; exact hL
    refine ai (p_iast (pc := 20) hm5 (by decide +kernel : decode k_P_Land_addFirm.2.1 20 = .ok (.iastore, 1)) c3 c4 g2) ?_
    refine ai (p_aload_n (pc := 21) (k := 0) (by decide +kernel : decode k_P_Land_addFirm.2.1 21 = .ok (.aload_n 0, 1)) rfl rfl) ?_
    refine ai (p_getr (pc := 22) (PR_388_5 hL) (by decide +kernel : decode k_P_Land_addFirm.2.1 22 = .ok (.getfield 15, 3)) lg_3_15 (PC_5 hL).1) ?_
    refine ai (p_aload_n (pc := 25) (k := 0) (by decide +kernel : decode k_P_Land_addFirm.2.1 25 = .ok (.aload_n 0, 1)) rfl rfl) ?_
    refine ai (r_getI (pc := 26) (by decide +kernel : decode k_P_Land_addFirm.2.1 26 = .ok (.getfield 47, 3)) lg_3_47 (by decide) (PC_5 hL).1) ?_
    refine ai (r_iload_n (pc := 29) (k := 2) (by decide +kernel : decode k_P_Land_addFirm.2.1 29 = .ok (.iload_n 2, 1)) rfl rfl) ?_
    obtain ⟨g6, h⟩ := gd_some h
    have c7 := (PC_7 hL).1
    have c8 := (PC_7 hL).2
    obtain ⟨m9, hm9, h⟩ := vb_some h
    have hL : PL m9 := by rw [hm9]; exact hL
    refine ai (p_iast (pc := 30) hm9 (by decide +kernel : decode k_P_Land_addFirm.2.1 30 = .ok (.iastore, 1)) c7 c8 g6) ?_
    refine ai (p_aload_n (pc := 31) (k := 0) (by decide +kernel : decode k_P_Land_addFirm.2.1 31 = .ok (.aload_n 0, 1)) rfl rfl) ?_
    refine ai (r_dup (pc := 32) (by decide +kernel : decode k_P_Land_addFirm.2.1 32 = .ok (.dup, 1)) (rfl)) ?_
    refine ai (r_getI (pc := 33) (by decide +kernel : decode k_P_Land_addFirm.2.1 33 = .ok (.getfield 47, 3)) lg_3_47 (by decide) (PC_5 hL).1) ?_
    refine ai (r_iconst (pc := 36) (by decide +kernel : decode k_P_Land_addFirm.2.1 36 = .ok (.iconst 1, 1)) ic_1) ?_
    refine ai (r_iadd (pc := 37) (by decide +kernel : decode k_P_Land_addFirm.2.1 37 = .ok (.iadd, 1))) ?_
    have c10 := (PC_5 hL).1
    obtain ⟨m11, hm11, h⟩ := vb_some h
    have hL : PL m11 := by rw [hm11]; exact hL
    refine ai (p_putI (pc := 38) hm11 (by decide +kernel : decode k_P_Land_addFirm.2.1 38 = .ok (.putfield 47, 3)) lp_3_47 c10) ?_
    refine ai (p_aload_n (pc := 41) (k := 0) (by decide +kernel : decode k_P_Land_addFirm.2.1 41 = .ok (.aload_n 0, 1)) rfl rfl) ?_
    refine ai (r_getI (pc := 42) (by decide +kernel : decode k_P_Land_addFirm.2.1 42 = .ok (.getfield 47, 3)) lg_3_47 (by decide) (PC_5 hL).1) ?_
    refine ai (r_iconst (pc := 45) (by decide +kernel : decode k_P_Land_addFirm.2.1 45 = .ok (.iconst 1, 1)) ic_1) ?_
    refine ai (r_isub (pc := 46) (by decide +kernel : decode k_P_Land_addFirm.2.1 46 = .ok (.isub, 1))) ?_
    cases h
    exact ⟨r_iret rfl (by decide +kernel : decode k_P_Land_addFirm.2.1 47 = .ok (.ireturn, 1)), hL⟩
  · refine ai (r_icmp_lt_f (pc := 6) 11 (by decide +kernel : decode k_P_Land_addFirm.2.1 6 = .ok (.if_icmp .lt (5), 3)) (by decide) c1) ?_
    refine ai (r_iconst (pc := 9) (by decide +kernel : decode k_P_Land_addFirm.2.1 9 = .ok (.iconst (-1), 1)) ic_m1) ?_
    cases h
    exact ⟨r_iret rfl (by decide +kernel : decode k_P_Land_addFirm.2.1 10 = .ok (.ireturn, 1)), hL⟩
set_option maxRecDepth 100000 in
set_option maxHeartbeats 4000000 in
theorem P_firm_run {x1 : Int32} {x2 : Int32} {m m' : Mem} {r : Int32} (hL : PL m) (h : P_firm x1 x2 m = some (r, m')) : Run k_P_firm 0 [(0, .ref 0), (1, .int x1), (2, .int x2)] [] m (some (.int r)) m' ∧ PL m' := by
  unfold P_firm at h
  refine ai (p_aload_n (pc := 0) (k := 0) (by decide +kernel : decode k_P_firm.2.1 0 = .ok (.aload_n 0, 1)) rfl rfl) ?_
  refine ai (p_getr (pc := 1) (PR_1408_0 hL) (by decide +kernel : decode k_P_firm.2.1 1 = .ok (.getfield 19, 3)) lg_11_19 (PC_0 hL).1) ?_
  refine ai (r_iload_n (pc := 4) (k := 1) (by decide +kernel : decode k_P_firm.2.1 4 = .ok (.iload_n 1, 1)) rfl rfl) ?_
  obtain ⟨r1, m2, hr1, h⟩ := bn_some h
  have q3 := P_Land_hasTown_run hL hr1
  have c4 := (PC_5 hL).1
  have hL := q3.2
  refine ai (q_callV (pc := 5) (As := [.int x1]) (st := []) (st2 := [.int r1]) (b := 5) rfl rfl (by decide +kernel : decode k_P_firm.2.1 5 = .ok (.invokevirtual 113, 3)) lc_11_113 mo_P_Land_hasTown ⟨Nat.le_of_ble_eq_true rfl, Nat.le_of_ble_eq_true rfl⟩ (Nat.le_of_ble_eq_true rfl) (Nat.le_of_ble_eq_true rfl) c4 q3.1) ?_
  rcases ite_some h with ⟨c5, h⟩ | ⟨c5, h⟩
  · refine ai (r_if_eq_t (pc := 8) (tgt := 21) (by decide +kernel : decode k_P_firm.2.1 8 = .ok (.ifCond .eq (13), 3)) (by decide) c5) ?_
    refine ai (r_iconst (pc := 21) (by decide +kernel : decode k_P_firm.2.1 21 = .ok (.iconst (-1), 1)) ic_m1) ?_
    cases h
    exact ⟨r_iret rfl (by decide +kernel : decode k_P_firm.2.1 22 = .ok (.ireturn, 1)), hL⟩
  · refine ai (r_if_eq_f (pc := 8) 21 (by decide +kernel : decode k_P_firm.2.1 8 = .ok (.ifCond .eq (13), 3)) (by decide) c5) ?_
    refine ai (r_iload_n (pc := 11) (k := 2) (by decide +kernel : decode k_P_firm.2.1 11 = .ok (.iload_n 2, 1)) rfl rfl) ?_
    refine ai (r_iconst (pc := 12) (by decide +kernel : decode k_P_firm.2.1 12 = .ok (.iconst 0, 1)) ic_0) ?_
    refine ai (r_bipush (pc := 13) (by decide +kernel : decode k_P_firm.2.1 13 = .ok (.bipush (7), 2)) (by decide : _ = (7 : Int32))) ?_
    obtain ⟨r6, hr6, h⟩ := bp_some h
    refine ai (q_callS (pc := 15) (As := [.int x2, .int 0, .int 7]) (st := []) (st2 := [.int r6]) rfl rfl (by decide +kernel : decode k_P_firm.2.1 15 = .ok (.invokestatic 117, 3)) lc_11_117 mo_P_within ⟨Nat.le_of_ble_eq_true rfl, Nat.le_of_ble_eq_true rfl⟩ (Nat.le_of_ble_eq_true rfl) (Nat.le_of_ble_eq_true rfl) (P_within_run hr6)) ?_
    rcases ite_some h with ⟨c7, h⟩ | ⟨c7, h⟩
    · refine ai (r_if_ne_f (pc := 18) 23 (by decide +kernel : decode k_P_firm.2.1 18 = .ok (.ifCond .ne (5), 3)) (by decide) c7) ?_
      refine ai (r_iconst (pc := 21) (by decide +kernel : decode k_P_firm.2.1 21 = .ok (.iconst (-1), 1)) ic_m1) ?_
      cases h
      exact ⟨r_iret rfl (by decide +kernel : decode k_P_firm.2.1 22 = .ok (.ireturn, 1)), hL⟩
    · refine ai (r_if_ne_t (pc := 18) (tgt := 23) (by decide +kernel : decode k_P_firm.2.1 18 = .ok (.ifCond .ne (5), 3)) (by decide) c7) ?_
      refine ai (p_aload_n (pc := 23) (k := 0) (by decide +kernel : decode k_P_firm.2.1 23 = .ok (.aload_n 0, 1)) rfl rfl) ?_
      refine ai (p_getr (pc := 24) (PR_1408_0 hL) (by decide +kernel : decode k_P_firm.2.1 24 = .ok (.getfield 19, 3)) lg_11_19 (PC_0 hL).1) ?_
      refine ai (r_iload_n (pc := 27) (k := 1) (by decide +kernel : decode k_P_firm.2.1 27 = .ok (.iload_n 1, 1)) rfl rfl) ?_
      refine ai (r_iload_n (pc := 28) (k := 2) (by decide +kernel : decode k_P_firm.2.1 28 = .ok (.iload_n 2, 1)) rfl rfl) ?_
      obtain ⟨r8, m9, hr8, h⟩ := bn_some h
      have q10 := P_Land_addFirm_run hL hr8
      have c11 := (PC_5 hL).1
      have hL := q10.2
      refine ai (q_callV (pc := 29) (As := [.int x1, .int x2]) (st := []) (st2 := [.int r8]) (b := 5) rfl rfl (by decide +kernel : decode k_P_firm.2.1 29 = .ok (.invokevirtual 121, 3)) lc_11_121 mo_P_Land_addFirm ⟨Nat.le_of_ble_eq_true rfl, Nat.le_of_ble_eq_true rfl⟩ (Nat.le_of_ble_eq_true rfl) (Nat.le_of_ble_eq_true rfl) c11 q10.1) ?_
      cases h
      exact ⟨r_iret rfl (by decide +kernel : decode k_P_firm.2.1 32 = .ok (.ireturn, 1)), hL⟩
set_option maxRecDepth 100000 in
set_option maxHeartbeats 4000000 in
theorem P_Land_hasFirm_run {x1 : Int32} {m m' : Mem} {r : Int32} (hL : PL m) (h : P_Land_hasFirm x1 m = some (r, m')) : Run k_P_Land_hasFirm 0 [(0, .ref 5), (1, .int x1)] [] m (some (.int r)) m' ∧ PL m' := by
  unfold P_Land_hasFirm at h
  refine ai (r_iload_n (pc := 0) (k := 1) (by decide +kernel : decode k_P_Land_hasFirm.2.1 0 = .ok (.iload_n 1, 1)) rfl rfl) ?_
  refine ai (r_iconst (pc := 1) (by decide +kernel : decode k_P_Land_hasFirm.2.1 1 = .ok (.iconst 0, 1)) ic_0) ?_
  refine ai (p_aload_n (pc := 2) (k := 0) (by decide +kernel : decode k_P_Land_hasFirm.2.1 2 = .ok (.aload_n 0, 1)) rfl rfl) ?_
  refine ai (r_getI (pc := 3) (by decide +kernel : decode k_P_Land_hasFirm.2.1 3 = .ok (.getfield 47, 3)) lg_3_47 (by decide) (PC_5 hL).1) ?_
  refine ai (r_iconst (pc := 6) (by decide +kernel : decode k_P_Land_hasFirm.2.1 6 = .ok (.iconst 1, 1)) ic_1) ?_
  refine ai (r_isub (pc := 7) (by decide +kernel : decode k_P_Land_hasFirm.2.1 7 = .ok (.isub, 1))) ?_
  obtain ⟨r1, hr1, h⟩ := bp_some h
  refine ai (q_callSN (pc := 8) (As := [.int x1, .int 0, .int ((mI m 385 5) - 1)]) (st := []) (st2 := [.int r1]) rfl rfl (by decide +kernel : decode k_P_Land_hasFirm.2.1 8 = .ok (.invokestatic 43, 3)) lc_3_43 mo_P_within ⟨Nat.le_of_ble_eq_true rfl, Nat.le_of_ble_eq_true rfl⟩ (Nat.le_of_ble_eq_true rfl) (Nat.le_of_ble_eq_true rfl) (P_within_run hr1)) ?_
  obtain ⟨z2, h⟩ := gz_some h
  cases h
  exact ⟨r_zret z2 rfl (by decide +kernel : decode k_P_Land_hasFirm.2.1 11 = .ok (.ireturn, 1)), hL⟩
set_option maxRecDepth 100000 in
set_option maxHeartbeats 4000000 in
theorem P_Land_addPerson_run {x1 : Int32} {x2 : Int32} {x3 : Int32} {m m' : Mem} {r : Int32} (hL : PL m) (h : P_Land_addPerson x1 x2 x3 m = some (r, m')) : Run k_P_Land_addPerson 0 [(0, .ref 5), (1, .int x1), (2, .int x2), (3, .int x3)] [] m (some (.int r)) m' ∧ PL m' := by
  unfold P_Land_addPerson at h
  refine ai (p_aload_n (pc := 0) (k := 0) (by decide +kernel : decode k_P_Land_addPerson.2.1 0 = .ok (.aload_n 0, 1)) rfl rfl) ?_
  refine ai (r_getI (pc := 1) (by decide +kernel : decode k_P_Land_addPerson.2.1 1 = .ok (.getfield 50, 3)) lg_3_50 (by decide) (PC_5 hL).1) ?_
  refine ai (r_bipush (pc := 4) (by decide +kernel : decode k_P_Land_addPerson.2.1 4 = .ok (.bipush (10), 2)) (by decide : _ = (10 : Int32))) ?_
  rcases ite_some h with ⟨c1, h⟩ | ⟨c1, h⟩
  · refine ai (r_icmp_lt_t (pc := 6) (tgt := 11) (by decide +kernel : decode k_P_Land_addPerson.2.1 6 = .ok (.if_icmp .lt (5), 3)) (by decide) c1) ?_
    refine ai (p_aload_n (pc := 11) (k := 0) (by decide +kernel : decode k_P_Land_addPerson.2.1 11 = .ok (.aload_n 0, 1)) rfl rfl) ?_
    refine ai (p_getr (pc := 12) (PR_389_5 hL) (by decide +kernel : decode k_P_Land_addPerson.2.1 12 = .ok (.getfield 18, 3)) lg_3_18 (PC_5 hL).1) ?_
    refine ai (p_aload_n (pc := 15) (k := 0) (by decide +kernel : decode k_P_Land_addPerson.2.1 15 = .ok (.aload_n 0, 1)) rfl rfl) ?_
    refine ai (r_getI (pc := 16) (by decide +kernel : decode k_P_Land_addPerson.2.1 16 = .ok (.getfield 50, 3)) lg_3_50 (by decide) (PC_5 hL).1) ?_
    refine ai (r_iload_n (pc := 19) (k := 1) (by decide +kernel : decode k_P_Land_addPerson.2.1 19 = .ok (.iload_n 1, 1)) rfl rfl) ?_
    obtain ⟨g2, h⟩ := gd_some h
    have c3 := (PC_8 hL).1
    have c4 := (PC_8 hL).2
    obtain ⟨m5, hm5, h⟩ := vb_some h
    have hL : PL m5 := by rw [hm5]; exact hL
    refine ai (p_iast (pc := 20) hm5 (by decide +kernel : decode k_P_Land_addPerson.2.1 20 = .ok (.iastore, 1)) c3 c4 g2) ?_
    refine ai (p_aload_n (pc := 21) (k := 0) (by decide +kernel : decode k_P_Land_addPerson.2.1 21 = .ok (.aload_n 0, 1)) rfl rfl) ?_
    refine ai (p_getr (pc := 22) (PR_390_5 hL) (by decide +kernel : decode k_P_Land_addPerson.2.1 22 = .ok (.getfield 21, 3)) lg_3_21 (PC_5 hL).1) ?_
    refine ai (p_aload_n (pc := 25) (k := 0) (by decide +kernel : decode k_P_Land_addPerson.2.1 25 = .ok (.aload_n 0, 1)) rfl rfl) ?_
    refine ai (r_getI (pc := 26) (by decide +kernel : decode k_P_Land_addPerson.2.1 26 = .ok (.getfield 50, 3)) lg_3_50 (by decide) (PC_5 hL).1) ?_
    refine ai (r_iload_n (pc := 29) (k := 2) (by decide +kernel : decode k_P_Land_addPerson.2.1 29 = .ok (.iload_n 2, 1)) rfl rfl) ?_
    obtain ⟨g6, h⟩ := gd_some h
    have c7 := (PC_9 hL).1
    have c8 := (PC_9 hL).2
    obtain ⟨m9, hm9, h⟩ := vb_some h
    have hL : PL m9 := by rw [hm9]; exact hL
    refine ai (p_iast (pc := 30) hm9 (by decide +kernel : decode k_P_Land_addPerson.2.1 30 = .ok (.iastore, 1)) c7 c8 g6) ?_
    refine ai (p_aload_n (pc := 31) (k := 0) (by decide +kernel : decode k_P_Land_addPerson.2.1 31 = .ok (.aload_n 0, 1)) rfl rfl) ?_
    refine ai (p_getr (pc := 32) (PR_391_5 hL) (by decide +kernel : decode k_P_Land_addPerson.2.1 32 = .ok (.getfield 24, 3)) lg_3_24 (PC_5 hL).1) ?_
    refine ai (p_aload_n (pc := 35) (k := 0) (by decide +kernel : decode k_P_Land_addPerson.2.1 35 = .ok (.aload_n 0, 1)) rfl rfl) ?_
    refine ai (r_getI (pc := 36) (by decide +kernel : decode k_P_Land_addPerson.2.1 36 = .ok (.getfield 50, 3)) lg_3_50 (by decide) (PC_5 hL).1) ?_
    refine ai (r_iload_n (pc := 39) (k := 3) (by decide +kernel : decode k_P_Land_addPerson.2.1 39 = .ok (.iload_n 3, 1)) rfl rfl) ?_
    obtain ⟨g10, h⟩ := gd_some h
    have c11 := (PC_10 hL).1
    have c12 := (PC_10 hL).2
    obtain ⟨m13, hm13, h⟩ := vb_some h
    have hL : PL m13 := by rw [hm13]; exact hL
    refine ai (p_iast (pc := 40) hm13 (by decide +kernel : decode k_P_Land_addPerson.2.1 40 = .ok (.iastore, 1)) c11 c12 g10) ?_
    refine ai (p_aload_n (pc := 41) (k := 0) (by decide +kernel : decode k_P_Land_addPerson.2.1 41 = .ok (.aload_n 0, 1)) rfl rfl) ?_
    refine ai (r_dup (pc := 42) (by decide +kernel : decode k_P_Land_addPerson.2.1 42 = .ok (.dup, 1)) (rfl)) ?_
    refine ai (r_getI (pc := 43) (by decide +kernel : decode k_P_Land_addPerson.2.1 43 = .ok (.getfield 50, 3)) lg_3_50 (by decide) (PC_5 hL).1) ?_
    refine ai (r_iconst (pc := 46) (by decide +kernel : decode k_P_Land_addPerson.2.1 46 = .ok (.iconst 1, 1)) ic_1) ?_
    refine ai (r_iadd (pc := 47) (by decide +kernel : decode k_P_Land_addPerson.2.1 47 = .ok (.iadd, 1))) ?_
    have c14 := (PC_5 hL).1
    obtain ⟨m15, hm15, h⟩ := vb_some h
    have hL : PL m15 := by rw [hm15]; exact hL
    refine ai (p_putI (pc := 48) hm15 (by decide +kernel : decode k_P_Land_addPerson.2.1 48 = .ok (.putfield 50, 3)) lp_3_50 c14) ?_
    refine ai (p_aload_n (pc := 51) (k := 0) (by decide +kernel : decode k_P_Land_addPerson.2.1 51 = .ok (.aload_n 0, 1)) rfl rfl) ?_
    refine ai (r_getI (pc := 52) (by decide +kernel : decode k_P_Land_addPerson.2.1 52 = .ok (.getfield 50, 3)) lg_3_50 (by decide) (PC_5 hL).1) ?_
    refine ai (r_iconst (pc := 55) (by decide +kernel : decode k_P_Land_addPerson.2.1 55 = .ok (.iconst 1, 1)) ic_1) ?_
    refine ai (r_isub (pc := 56) (by decide +kernel : decode k_P_Land_addPerson.2.1 56 = .ok (.isub, 1))) ?_
    cases h
    exact ⟨r_iret rfl (by decide +kernel : decode k_P_Land_addPerson.2.1 57 = .ok (.ireturn, 1)), hL⟩
  · refine ai (r_icmp_lt_f (pc := 6) 11 (by decide +kernel : decode k_P_Land_addPerson.2.1 6 = .ok (.if_icmp .lt (5), 3)) (by decide) c1) ?_
    refine ai (r_iconst (pc := 9) (by decide +kernel : decode k_P_Land_addPerson.2.1 9 = .ok (.iconst (-1), 1)) ic_m1) ?_
    cases h
    exact ⟨r_iret rfl (by decide +kernel : decode k_P_Land_addPerson.2.1 10 = .ok (.ireturn, 1)), hL⟩
set_option maxRecDepth 100000 in
set_option maxHeartbeats 4000000 in
theorem P_person_run {x1 : Int32} {x2 : Int32} {x3 : Int32} {m m' : Mem} {r : Int32} (hL : PL m) (h : P_person x1 x2 x3 m = some (r, m')) : Run k_P_person 0 [(0, .ref 0), (1, .int x1), (2, .int x2), (3, .int x3)] [] m (some (.int r)) m' ∧ PL m' := by
  unfold P_person at h
  refine ai (p_aload_n (pc := 0) (k := 0) (by decide +kernel : decode k_P_person.2.1 0 = .ok (.aload_n 0, 1)) rfl rfl) ?_
  refine ai (p_getr (pc := 1) (PR_1408_0 hL) (by decide +kernel : decode k_P_person.2.1 1 = .ok (.getfield 19, 3)) lg_11_19 (PC_0 hL).1) ?_
  refine ai (r_iload_n (pc := 4) (k := 1) (by decide +kernel : decode k_P_person.2.1 4 = .ok (.iload_n 1, 1)) rfl rfl) ?_
  obtain ⟨r1, m2, hr1, h⟩ := bn_some h
  have q3 := P_Land_hasFirm_run hL hr1
  have c4 := (PC_5 hL).1
  have hL := q3.2
  refine ai (q_callV (pc := 5) (As := [.int x1]) (st := []) (st2 := [.int r1]) (b := 5) rfl rfl (by decide +kernel : decode k_P_person.2.1 5 = .ok (.invokevirtual 125, 3)) lc_11_125 mo_P_Land_hasFirm ⟨Nat.le_of_ble_eq_true rfl, Nat.le_of_ble_eq_true rfl⟩ (Nat.le_of_ble_eq_true rfl) (Nat.le_of_ble_eq_true rfl) c4 q3.1) ?_
  rcases ite_some h with ⟨c5, h⟩ | ⟨c5, h⟩
  · refine ai (r_if_eq_t (pc := 8) (tgt := 32) (by decide +kernel : decode k_P_person.2.1 8 = .ok (.ifCond .eq (24), 3)) (by decide) c5) ?_
    refine ai (r_iconst (pc := 32) (by decide +kernel : decode k_P_person.2.1 32 = .ok (.iconst (-1), 1)) ic_m1) ?_
    cases h
    exact ⟨r_iret rfl (by decide +kernel : decode k_P_person.2.1 33 = .ok (.ireturn, 1)), hL⟩
  · refine ai (r_if_eq_f (pc := 8) 32 (by decide +kernel : decode k_P_person.2.1 8 = .ok (.ifCond .eq (24), 3)) (by decide) c5) ?_
    refine ai (r_iload_n (pc := 11) (k := 2) (by decide +kernel : decode k_P_person.2.1 11 = .ok (.iload_n 2, 1)) rfl rfl) ?_
    refine ai (r_iconst (pc := 12) (by decide +kernel : decode k_P_person.2.1 12 = .ok (.iconst 0, 1)) ic_0) ?_
    refine ai (r_sipush (pc := 13) (by decide +kernel : decode k_P_person.2.1 13 = .ok (.sipush (255), 3)) (by decide : _ = (255 : Int32))) ?_
    obtain ⟨r6, hr6, h⟩ := bp_some h
    refine ai (q_callS (pc := 16) (As := [.int x2, .int 0, .int 255]) (st := []) (st2 := [.int r6]) rfl rfl (by decide +kernel : decode k_P_person.2.1 16 = .ok (.invokestatic 117, 3)) lc_11_117 mo_P_within ⟨Nat.le_of_ble_eq_true rfl, Nat.le_of_ble_eq_true rfl⟩ (Nat.le_of_ble_eq_true rfl) (Nat.le_of_ble_eq_true rfl) (P_within_run hr6)) ?_
    rcases ite_some h with ⟨c7, h⟩ | ⟨c7, h⟩
    · refine ai (r_if_eq_t (pc := 19) (tgt := 32) (by decide +kernel : decode k_P_person.2.1 19 = .ok (.ifCond .eq (13), 3)) (by decide) c7) ?_
      refine ai (r_iconst (pc := 32) (by decide +kernel : decode k_P_person.2.1 32 = .ok (.iconst (-1), 1)) ic_m1) ?_
      cases h
      exact ⟨r_iret rfl (by decide +kernel : decode k_P_person.2.1 33 = .ok (.ireturn, 1)), hL⟩
    · refine ai (r_if_eq_f (pc := 19) 32 (by decide +kernel : decode k_P_person.2.1 19 = .ok (.ifCond .eq (13), 3)) (by decide) c7) ?_
      refine ai (r_iload_n (pc := 22) (k := 3) (by decide +kernel : decode k_P_person.2.1 22 = .ok (.iload_n 3, 1)) rfl rfl) ?_
      refine ai (r_iconst (pc := 23) (by decide +kernel : decode k_P_person.2.1 23 = .ok (.iconst 0, 1)) ic_0) ?_
      refine ai (r_bipush (pc := 24) (by decide +kernel : decode k_P_person.2.1 24 = .ok (.bipush (40), 2)) (by decide : _ = (40 : Int32))) ?_
      obtain ⟨r8, hr8, h⟩ := bp_some h
      refine ai (q_callS (pc := 26) (As := [.int x3, .int 0, .int 40]) (st := []) (st2 := [.int r8]) rfl rfl (by decide +kernel : decode k_P_person.2.1 26 = .ok (.invokestatic 117, 3)) lc_11_117 mo_P_within ⟨Nat.le_of_ble_eq_true rfl, Nat.le_of_ble_eq_true rfl⟩ (Nat.le_of_ble_eq_true rfl) (Nat.le_of_ble_eq_true rfl) (P_within_run hr8)) ?_
      rcases ite_some h with ⟨c9, h⟩ | ⟨c9, h⟩
      · refine ai (r_if_ne_f (pc := 29) 34 (by decide +kernel : decode k_P_person.2.1 29 = .ok (.ifCond .ne (5), 3)) (by decide) c9) ?_
        refine ai (r_iconst (pc := 32) (by decide +kernel : decode k_P_person.2.1 32 = .ok (.iconst (-1), 1)) ic_m1) ?_
        cases h
        exact ⟨r_iret rfl (by decide +kernel : decode k_P_person.2.1 33 = .ok (.ireturn, 1)), hL⟩
      · refine ai (r_if_ne_t (pc := 29) (tgt := 34) (by decide +kernel : decode k_P_person.2.1 29 = .ok (.ifCond .ne (5), 3)) (by decide) c9) ?_
        refine ai (p_aload_n (pc := 34) (k := 0) (by decide +kernel : decode k_P_person.2.1 34 = .ok (.aload_n 0, 1)) rfl rfl) ?_
        refine ai (p_getr (pc := 35) (PR_1408_0 hL) (by decide +kernel : decode k_P_person.2.1 35 = .ok (.getfield 19, 3)) lg_11_19 (PC_0 hL).1) ?_
        refine ai (r_iload_n (pc := 38) (k := 1) (by decide +kernel : decode k_P_person.2.1 38 = .ok (.iload_n 1, 1)) rfl rfl) ?_
        refine ai (r_iload_n (pc := 39) (k := 2) (by decide +kernel : decode k_P_person.2.1 39 = .ok (.iload_n 2, 1)) rfl rfl) ?_
        refine ai (r_iload_n (pc := 40) (k := 3) (by decide +kernel : decode k_P_person.2.1 40 = .ok (.iload_n 3, 1)) rfl rfl) ?_
        obtain ⟨r10, m11, hr10, h⟩ := bn_some h
        have q12 := P_Land_addPerson_run hL hr10
        have c13 := (PC_5 hL).1
        have hL := q12.2
        refine ai (q_callV (pc := 41) (As := [.int x1, .int x2, .int x3]) (st := []) (st2 := [.int r10]) (b := 5) rfl rfl (by decide +kernel : decode k_P_person.2.1 41 = .ok (.invokevirtual 128, 3)) lc_11_128 mo_P_Land_addPerson ⟨Nat.le_of_ble_eq_true rfl, Nat.le_of_ble_eq_true rfl⟩ (Nat.le_of_ble_eq_true rfl) (Nat.le_of_ble_eq_true rfl) c13 q12.1) ?_
        cases h
        exact ⟨r_iret rfl (by decide +kernel : decode k_P_person.2.1 44 = .ok (.ireturn, 1)), hL⟩
set_option maxRecDepth 100000 in
set_option maxHeartbeats 4000000 in
theorem P_marks_run {x1 : Int32} {x2 : Int32} {m m' : Mem} {r : Int32} (hL : PL m) (h : P_marks x1 x2 m = some (r, m')) : Run k_P_marks 0 [(0, .ref 0), (1, .int x1), (2, .int x2)] [] m (some (.int r)) m' ∧ PL m' := by
  unfold P_marks at h
  refine ai (r_iload_n (pc := 0) (k := 1) (by decide +kernel : decode k_P_marks.2.1 0 = .ok (.iload_n 1, 1)) rfl rfl) ?_
  obtain ⟨r1, hr1, h⟩ := bp_some h
  refine ai (q_callS (pc := 1) (As := [.int x1]) (st := []) (st2 := [.int r1]) rfl rfl (by decide +kernel : decode k_P_marks.2.1 1 = .ok (.invokestatic 132, 3)) lc_11_132 mo_P_isTask ⟨Nat.le_of_ble_eq_true rfl, Nat.le_of_ble_eq_true rfl⟩ (Nat.le_of_ble_eq_true rfl) (Nat.le_of_ble_eq_true rfl) (P_isTask_run hr1)) ?_
  rcases ite_some h with ⟨c2, h⟩ | ⟨c2, h⟩
  · refine ai (r_if_eq_t (pc := 4) (tgt := 18) (by decide +kernel : decode k_P_marks.2.1 4 = .ok (.ifCond .eq (14), 3)) (by decide) c2) ?_
    refine ai (r_iconst (pc := 18) (by decide +kernel : decode k_P_marks.2.1 18 = .ok (.iconst 0, 1)) ic_0) ?_
    cases h
    exact ⟨r_zret (by decide) rfl (by decide +kernel : decode k_P_marks.2.1 19 = .ok (.ireturn, 1)), hL⟩
  · refine ai (r_if_eq_f (pc := 4) 18 (by decide +kernel : decode k_P_marks.2.1 4 = .ok (.ifCond .eq (14), 3)) (by decide) c2) ?_
    refine ai (r_iload_n (pc := 7) (k := 2) (by decide +kernel : decode k_P_marks.2.1 7 = .ok (.iload_n 2, 1)) rfl rfl) ?_
    refine ai (r_iconst (pc := 8) (by decide +kernel : decode k_P_marks.2.1 8 = .ok (.iconst 0, 1)) ic_0) ?_
    refine ai (r_sipush (pc := 9) (by decide +kernel : decode k_P_marks.2.1 9 = .ok (.sipush (255), 3)) (by decide : _ = (255 : Int32))) ?_
    obtain ⟨r3, hr3, h⟩ := bp_some h
    refine ai (q_callS (pc := 12) (As := [.int x2, .int 0, .int 255]) (st := []) (st2 := [.int r3]) rfl rfl (by decide +kernel : decode k_P_marks.2.1 12 = .ok (.invokestatic 117, 3)) lc_11_117 mo_P_within ⟨Nat.le_of_ble_eq_true rfl, Nat.le_of_ble_eq_true rfl⟩ (Nat.le_of_ble_eq_true rfl) (Nat.le_of_ble_eq_true rfl) (P_within_run hr3)) ?_
    rcases ite_some h with ⟨c4, h⟩ | ⟨c4, h⟩
    · refine ai (r_if_ne_f (pc := 15) 20 (by decide +kernel : decode k_P_marks.2.1 15 = .ok (.ifCond .ne (5), 3)) (by decide) c4) ?_
      refine ai (r_iconst (pc := 18) (by decide +kernel : decode k_P_marks.2.1 18 = .ok (.iconst 0, 1)) ic_0) ?_
      cases h
      exact ⟨r_zret (by decide) rfl (by decide +kernel : decode k_P_marks.2.1 19 = .ok (.ireturn, 1)), hL⟩
    · refine ai (r_if_ne_t (pc := 15) (tgt := 20) (by decide +kernel : decode k_P_marks.2.1 15 = .ok (.ifCond .ne (5), 3)) (by decide) c4) ?_
      refine ai (p_aload_n (pc := 20) (k := 0) (by decide +kernel : decode k_P_marks.2.1 20 = .ok (.aload_n 0, 1)) rfl rfl) ?_
      refine ai (p_getr (pc := 21) (PR_1408_0 hL) (by decide +kernel : decode k_P_marks.2.1 21 = .ok (.getfield 19, 3)) lg_11_19 (PC_0 hL).1) ?_
      refine ai (p_getr (pc := 24) (PR_392_5 hL) (by decide +kernel : decode k_P_marks.2.1 24 = .ok (.getfield 135, 3)) lg_11_135 (PC_5 hL).1) ?_
      refine ai (r_iload_n (pc := 27) (k := 1) (by decide +kernel : decode k_P_marks.2.1 27 = .ok (.iload_n 1, 1)) rfl rfl) ?_
      refine ai (r_iload_n (pc := 28) (k := 2) (by decide +kernel : decode k_P_marks.2.1 28 = .ok (.iload_n 2, 1)) rfl rfl) ?_
      obtain ⟨g5, h⟩ := gd_some h
      have c6 := (PC_11 hL).1
      have c7 := (PC_11 hL).2
      obtain ⟨m8, hm8, h⟩ := vb_some h
      have hL : PL m8 := by rw [hm8]; exact hL
      refine ai (p_iast (pc := 29) hm8 (by decide +kernel : decode k_P_marks.2.1 29 = .ok (.iastore, 1)) c6 c7 g5) ?_
      refine ai (r_iconst (pc := 30) (by decide +kernel : decode k_P_marks.2.1 30 = .ok (.iconst 1, 1)) ic_1) ?_
      cases h
      exact ⟨r_zret (by decide) rfl (by decide +kernel : decode k_P_marks.2.1 31 = .ok (.ireturn, 1)), hL⟩
set_option maxRecDepth 100000 in
set_option maxHeartbeats 4000000 in
theorem P_weight_run {x1 : Int32} {x2 : Int32} {m m' : Mem} {r : Int32} (hL : PL m) (h : P_weight x1 x2 m = some (r, m')) : Run k_P_weight 0 [(0, .ref 0), (1, .int x1), (2, .int x2)] [] m (some (.int r)) m' ∧ PL m' := by
  unfold P_weight at h
  refine ai (r_iload_n (pc := 0) (k := 1) (by decide +kernel : decode k_P_weight.2.1 0 = .ok (.iload_n 1, 1)) rfl rfl) ?_
  refine ai (r_iconst (pc := 1) (by decide +kernel : decode k_P_weight.2.1 1 = .ok (.iconst 0, 1)) ic_0) ?_
  refine ai (r_iconst (pc := 2) (by decide +kernel : decode k_P_weight.2.1 2 = .ok (.iconst 3, 1)) ic_3) ?_
  obtain ⟨r1, hr1, h⟩ := bp_some h
  refine ai (q_callS (pc := 3) (As := [.int x1, .int 0, .int 3]) (st := []) (st2 := [.int r1]) rfl rfl (by decide +kernel : decode k_P_weight.2.1 3 = .ok (.invokestatic 117, 3)) lc_11_117 mo_P_within ⟨Nat.le_of_ble_eq_true rfl, Nat.le_of_ble_eq_true rfl⟩ (Nat.le_of_ble_eq_true rfl) (Nat.le_of_ble_eq_true rfl) (P_within_run hr1)) ?_
  rcases ite_some h with ⟨c2, h⟩ | ⟨c2, h⟩
  · refine ai (r_if_eq_t (pc := 6) (tgt := 19) (by decide +kernel : decode k_P_weight.2.1 6 = .ok (.ifCond .eq (13), 3)) (by decide) c2) ?_
    refine ai (r_iconst (pc := 19) (by decide +kernel : decode k_P_weight.2.1 19 = .ok (.iconst 0, 1)) ic_0) ?_
    cases h
    exact ⟨r_zret (by decide) rfl (by decide +kernel : decode k_P_weight.2.1 20 = .ok (.ireturn, 1)), hL⟩
  · refine ai (r_if_eq_f (pc := 6) 19 (by decide +kernel : decode k_P_weight.2.1 6 = .ok (.ifCond .eq (13), 3)) (by decide) c2) ?_
    refine ai (r_iload_n (pc := 9) (k := 2) (by decide +kernel : decode k_P_weight.2.1 9 = .ok (.iload_n 2, 1)) rfl rfl) ?_
    refine ai (r_iconst (pc := 10) (by decide +kernel : decode k_P_weight.2.1 10 = .ok (.iconst 0, 1)) ic_0) ?_
    refine ai (r_bipush (pc := 11) (by decide +kernel : decode k_P_weight.2.1 11 = .ok (.bipush (9), 2)) (by decide : _ = (9 : Int32))) ?_
    obtain ⟨r3, hr3, h⟩ := bp_some h
    refine ai (q_callS (pc := 13) (As := [.int x2, .int 0, .int 9]) (st := []) (st2 := [.int r3]) rfl rfl (by decide +kernel : decode k_P_weight.2.1 13 = .ok (.invokestatic 117, 3)) lc_11_117 mo_P_within ⟨Nat.le_of_ble_eq_true rfl, Nat.le_of_ble_eq_true rfl⟩ (Nat.le_of_ble_eq_true rfl) (Nat.le_of_ble_eq_true rfl) (P_within_run hr3)) ?_
    rcases ite_some h with ⟨c4, h⟩ | ⟨c4, h⟩
    · refine ai (r_if_ne_f (pc := 16) 21 (by decide +kernel : decode k_P_weight.2.1 16 = .ok (.ifCond .ne (5), 3)) (by decide) c4) ?_
      refine ai (r_iconst (pc := 19) (by decide +kernel : decode k_P_weight.2.1 19 = .ok (.iconst 0, 1)) ic_0) ?_
      cases h
      exact ⟨r_zret (by decide) rfl (by decide +kernel : decode k_P_weight.2.1 20 = .ok (.ireturn, 1)), hL⟩
    · refine ai (r_if_ne_t (pc := 16) (tgt := 21) (by decide +kernel : decode k_P_weight.2.1 16 = .ok (.ifCond .ne (5), 3)) (by decide) c4) ?_
      refine ai (p_aload_n (pc := 21) (k := 0) (by decide +kernel : decode k_P_weight.2.1 21 = .ok (.aload_n 0, 1)) rfl rfl) ?_
      refine ai (p_getr (pc := 22) (PR_1408_0 hL) (by decide +kernel : decode k_P_weight.2.1 22 = .ok (.getfield 19, 3)) lg_11_19 (PC_0 hL).1) ?_
      refine ai (p_getr (pc := 25) (PR_393_5 hL) (by decide +kernel : decode k_P_weight.2.1 25 = .ok (.getfield 139, 3)) lg_11_139 (PC_5 hL).1) ?_
      refine ai (r_iload_n (pc := 28) (k := 1) (by decide +kernel : decode k_P_weight.2.1 28 = .ok (.iload_n 1, 1)) rfl rfl) ?_
      refine ai (r_iload_n (pc := 29) (k := 2) (by decide +kernel : decode k_P_weight.2.1 29 = .ok (.iload_n 2, 1)) rfl rfl) ?_
      obtain ⟨g5, h⟩ := gd_some h
      have c6 := (PC_12 hL).1
      have c7 := (PC_12 hL).2
      obtain ⟨m8, hm8, h⟩ := vb_some h
      have hL : PL m8 := by rw [hm8]; exact hL
      refine ai (p_iast (pc := 30) hm8 (by decide +kernel : decode k_P_weight.2.1 30 = .ok (.iastore, 1)) c6 c7 g5) ?_
      refine ai (r_iconst (pc := 31) (by decide +kernel : decode k_P_weight.2.1 31 = .ok (.iconst 1, 1)) ic_1) ?_
      cases h
      exact ⟨r_zret (by decide) rfl (by decide +kernel : decode k_P_weight.2.1 32 = .ok (.ireturn, 1)), hL⟩
set_option maxRecDepth 100000 in
set_option maxHeartbeats 4000000 in
theorem P_Ledger_tell_run {x1 : Int32} {x2 : Int32} {x3 : Int32} {x4 : Int32} {x5 : Int32} {m m' : Mem} {r : Int32} (hL : PL m) (h : P_Ledger_tell x1 x2 x3 x4 x5 m = some (r, m')) : Run k_P_Ledger_tell 0 [(0, .ref 13), (1, .int x1), (2, .int x2), (3, .int x3), (4, .int x4), (5, .int x5)] [] m (some (.int r)) m' ∧ PL m' := by
  unfold P_Ledger_tell at h
  refine ai (p_aload_n (pc := 0) (k := 0) (by decide +kernel : decode k_P_Ledger_tell.2.1 0 = .ok (.aload_n 0, 1)) rfl rfl) ?_
  obtain ⟨m1, hm1, h⟩ := vb_some h
  have hL : PL m1 := by rw [hm1]; exact PL.nw hL
  refine ai (p_new (pc := 1) hm1 (by decide +kernel : decode k_P_Ledger_tell.2.1 1 = .ok (.new 9, 3)) ln_4_9) ?_
  have t2 : mT m1 (mC m) = 1 := by rw [hm1]; exact up1_eq
  refine ai (r_dup (pc := 4) (by decide +kernel : decode k_P_Ledger_tell.2.1 4 = .ok (.dup, 1)) (rfl)) ?_
  refine ai (r_iload_n (pc := 5) (k := 1) (by decide +kernel : decode k_P_Ledger_tell.2.1 5 = .ok (.iload_n 1, 1)) rfl rfl) ?_
  refine ai (r_iload_n (pc := 6) (k := 2) (by decide +kernel : decode k_P_Ledger_tell.2.1 6 = .ok (.iload_n 2, 1)) rfl rfl) ?_
  refine ai (r_iload_n (pc := 7) (k := 3) (by decide +kernel : decode k_P_Ledger_tell.2.1 7 = .ok (.iload_n 3, 1)) rfl rfl) ?_
  refine ai (r_iload (pc := 8) (k := 4) (by decide +kernel : decode k_P_Ledger_tell.2.1 8 = .ok (.iload 4, 2)) rfl) ?_
  refine ai (r_iload (pc := 10) (k := 5) (by decide +kernel : decode k_P_Ledger_tell.2.1 10 = .ok (.iload 5, 2)) rfl) ?_
  refine ai (r_iconst (pc := 12) (by decide +kernel : decode k_P_Ledger_tell.2.1 12 = .ok (.iconst 0, 1)) ic_0) ?_
  refine ai (r_null (pc := 13) (by decide +kernel : decode k_P_Ledger_tell.2.1 13 = .ok (.aconst_null, 1))) ?_
  obtain ⟨r3, m4, hr3, h⟩ := bn_some h
  have q5 := P_Fact_init_run hL t2 hr3
  have hL := q5.2
  refine ai (q_callI (pc := 14) (As := [.int x1, .int x2, .int x3, .int x4, .int x5, .int 0, .null]) (st := [.ref (mC m), .ref 13]) (st2 := [.ref (mC m), .ref 13]) (b := mC m) rfl rfl (by decide +kernel : decode k_P_Ledger_tell.2.1 14 = .ok (.invokespecial 48, 3)) lc_4_48 mo_P_Fact_init ⟨Nat.le_of_ble_eq_true rfl, Nat.le_of_ble_eq_true rfl⟩ (Nat.le_of_ble_eq_true rfl) (Nat.le_of_ble_eq_true rfl) q5.1) ?_
  obtain ⟨r6, m7, hr6, h⟩ := bn_some h
  have q8 := P_Ledger_add_run hL hr6
  have c9 := (PC_13 hL).1
  have hL := q8.2
  refine ai (q_callV (pc := 17) (As := [.ref (mC m)]) (st := []) (st2 := [.int r6]) (b := 13) rfl rfl (by decide +kernel : decode k_P_Ledger_tell.2.1 17 = .ok (.invokevirtual 51, 3)) lc_4_51 mo_P_Ledger_add ⟨Nat.le_of_ble_eq_true rfl, Nat.le_of_ble_eq_true rfl⟩ (Nat.le_of_ble_eq_true rfl) (Nat.le_of_ble_eq_true rfl) c9 q8.1) ?_
  cases h
  exact ⟨r_iret rfl (by decide +kernel : decode k_P_Ledger_tell.2.1 20 = .ok (.ireturn, 1)), hL⟩
set_option maxRecDepth 100000 in
set_option maxHeartbeats 4000000 in
theorem P_price_run {x1 : Int32} {x2 : Int32} {x3 : Int32} {x4 : Int32} {m m' : Mem} {r : Int32} (hL : PL m) (h : P_price x1 x2 x3 x4 m = some (r, m')) : Run k_P_price 0 [(0, .ref 0), (1, .int x1), (2, .int x2), (3, .int x3), (4, .int x4)] [] m (some (.int r)) m' ∧ PL m' := by
  unfold P_price at h
  refine ai (p_aload_n (pc := 0) (k := 0) (by decide +kernel : decode k_P_price.2.1 0 = .ok (.aload_n 0, 1)) rfl rfl) ?_
  refine ai (p_getr (pc := 1) (PR_1408_0 hL) (by decide +kernel : decode k_P_price.2.1 1 = .ok (.getfield 19, 3)) lg_11_19 (PC_0 hL).1) ?_
  refine ai (r_iload_n (pc := 4) (k := 1) (by decide +kernel : decode k_P_price.2.1 4 = .ok (.iload_n 1, 1)) rfl rfl) ?_
  obtain ⟨r1, m2, hr1, h⟩ := bn_some h
  have q3 := P_Land_hasTown_run hL hr1
  have c4 := (PC_5 hL).1
  have hL := q3.2
  refine ai (q_callV (pc := 5) (As := [.int x1]) (st := []) (st2 := [.int r1]) (b := 5) rfl rfl (by decide +kernel : decode k_P_price.2.1 5 = .ok (.invokevirtual 113, 3)) lc_11_113 mo_P_Land_hasTown ⟨Nat.le_of_ble_eq_true rfl, Nat.le_of_ble_eq_true rfl⟩ (Nat.le_of_ble_eq_true rfl) (Nat.le_of_ble_eq_true rfl) c4 q3.1) ?_
  rcases ite_some h with ⟨c5, h⟩ | ⟨c5, h⟩
  · refine ai (r_if_eq_t (pc := 8) (tgt := 38) (by decide +kernel : decode k_P_price.2.1 8 = .ok (.ifCond .eq (30), 3)) (by decide) c5) ?_
    refine ai (r_iconst (pc := 38) (by decide +kernel : decode k_P_price.2.1 38 = .ok (.iconst (-1), 1)) ic_m1) ?_
    cases h
    exact ⟨r_iret rfl (by decide +kernel : decode k_P_price.2.1 39 = .ok (.ireturn, 1)), hL⟩
  · refine ai (r_if_eq_f (pc := 8) 38 (by decide +kernel : decode k_P_price.2.1 8 = .ok (.ifCond .eq (30), 3)) (by decide) c5) ?_
    refine ai (r_iload_n (pc := 11) (k := 2) (by decide +kernel : decode k_P_price.2.1 11 = .ok (.iload_n 2, 1)) rfl rfl) ?_
    obtain ⟨r6, hr6, h⟩ := bp_some h
    refine ai (q_callS (pc := 12) (As := [.int x2]) (st := []) (st2 := [.int r6]) rfl rfl (by decide +kernel : decode k_P_price.2.1 12 = .ok (.invokestatic 142, 3)) lc_11_142 mo_P_isQuarter ⟨Nat.le_of_ble_eq_true rfl, Nat.le_of_ble_eq_true rfl⟩ (Nat.le_of_ble_eq_true rfl) (Nat.le_of_ble_eq_true rfl) (P_isQuarter_run hr6)) ?_
    rcases ite_some h with ⟨c7, h⟩ | ⟨c7, h⟩
    · refine ai (r_if_eq_t (pc := 15) (tgt := 38) (by decide +kernel : decode k_P_price.2.1 15 = .ok (.ifCond .eq (23), 3)) (by decide) c7) ?_
      refine ai (r_iconst (pc := 38) (by decide +kernel : decode k_P_price.2.1 38 = .ok (.iconst (-1), 1)) ic_m1) ?_
      cases h
      exact ⟨r_iret rfl (by decide +kernel : decode k_P_price.2.1 39 = .ok (.ireturn, 1)), hL⟩
    · refine ai (r_if_eq_f (pc := 15) 38 (by decide +kernel : decode k_P_price.2.1 15 = .ok (.ifCond .eq (23), 3)) (by decide) c7) ?_
      refine ai (r_iload_n (pc := 18) (k := 3) (by decide +kernel : decode k_P_price.2.1 18 = .ok (.iload_n 3, 1)) rfl rfl) ?_
      refine ai (r_iconst (pc := 19) (by decide +kernel : decode k_P_price.2.1 19 = .ok (.iconst 0, 1)) ic_0) ?_
      refine ai (r_iconst (pc := 20) (by decide +kernel : decode k_P_price.2.1 20 = .ok (.iconst 3, 1)) ic_3) ?_
      obtain ⟨r8, hr8, h⟩ := bp_some h
      refine ai (q_callS (pc := 21) (As := [.int x3, .int 0, .int 3]) (st := []) (st2 := [.int r8]) rfl rfl (by decide +kernel : decode k_P_price.2.1 21 = .ok (.invokestatic 117, 3)) lc_11_117 mo_P_within ⟨Nat.le_of_ble_eq_true rfl, Nat.le_of_ble_eq_true rfl⟩ (Nat.le_of_ble_eq_true rfl) (Nat.le_of_ble_eq_true rfl) (P_within_run hr8)) ?_
      rcases ite_some h with ⟨c9, h⟩ | ⟨c9, h⟩
      · refine ai (r_if_eq_t (pc := 24) (tgt := 38) (by decide +kernel : decode k_P_price.2.1 24 = .ok (.ifCond .eq (14), 3)) (by decide) c9) ?_
        refine ai (r_iconst (pc := 38) (by decide +kernel : decode k_P_price.2.1 38 = .ok (.iconst (-1), 1)) ic_m1) ?_
        cases h
        exact ⟨r_iret rfl (by decide +kernel : decode k_P_price.2.1 39 = .ok (.ireturn, 1)), hL⟩
      · refine ai (r_if_eq_f (pc := 24) 38 (by decide +kernel : decode k_P_price.2.1 24 = .ok (.ifCond .eq (14), 3)) (by decide) c9) ?_
        refine ai (r_iload (pc := 27) (k := 4) (by decide +kernel : decode k_P_price.2.1 27 = .ok (.iload 4, 2)) rfl) ?_
        refine ai (r_iconst (pc := 29) (by decide +kernel : decode k_P_price.2.1 29 = .ok (.iconst 0, 1)) ic_0) ?_
        refine ai (r_bipush (pc := 30) (by decide +kernel : decode k_P_price.2.1 30 = .ok (.bipush (99), 2)) (by decide : _ = (99 : Int32))) ?_
        obtain ⟨r10, hr10, h⟩ := bp_some h
        refine ai (q_callS (pc := 32) (As := [.int x4, .int 0, .int 99]) (st := []) (st2 := [.int r10]) rfl rfl (by decide +kernel : decode k_P_price.2.1 32 = .ok (.invokestatic 117, 3)) lc_11_117 mo_P_within ⟨Nat.le_of_ble_eq_true rfl, Nat.le_of_ble_eq_true rfl⟩ (Nat.le_of_ble_eq_true rfl) (Nat.le_of_ble_eq_true rfl) (P_within_run hr10)) ?_
        rcases ite_some h with ⟨c11, h⟩ | ⟨c11, h⟩
        · refine ai (r_if_ne_f (pc := 35) 40 (by decide +kernel : decode k_P_price.2.1 35 = .ok (.ifCond .ne (5), 3)) (by decide) c11) ?_
          refine ai (r_iconst (pc := 38) (by decide +kernel : decode k_P_price.2.1 38 = .ok (.iconst (-1), 1)) ic_m1) ?_
          cases h
          exact ⟨r_iret rfl (by decide +kernel : decode k_P_price.2.1 39 = .ok (.ireturn, 1)), hL⟩
        · refine ai (r_if_ne_t (pc := 35) (tgt := 40) (by decide +kernel : decode k_P_price.2.1 35 = .ok (.ifCond .ne (5), 3)) (by decide) c11) ?_
          refine ai (p_aload_n (pc := 40) (k := 0) (by decide +kernel : decode k_P_price.2.1 40 = .ok (.aload_n 0, 1)) rfl rfl) ?_
          refine ai (p_getr (pc := 41) (PR_1409_0 hL) (by decide +kernel : decode k_P_price.2.1 41 = .ok (.getfield 26, 3)) lg_11_26 (PC_0 hL).1) ?_
          refine ai (r_iconst (pc := 44) (by decide +kernel : decode k_P_price.2.1 44 = .ok (.iconst 4, 1)) ic_4) ?_
          refine ai (r_iload_n (pc := 45) (k := 1) (by decide +kernel : decode k_P_price.2.1 45 = .ok (.iload_n 1, 1)) rfl rfl) ?_
          refine ai (r_iload_n (pc := 46) (k := 2) (by decide +kernel : decode k_P_price.2.1 46 = .ok (.iload_n 2, 1)) rfl rfl) ?_
          refine ai (r_iload_n (pc := 47) (k := 3) (by decide +kernel : decode k_P_price.2.1 47 = .ok (.iload_n 3, 1)) rfl rfl) ?_
          refine ai (r_iload (pc := 48) (k := 4) (by decide +kernel : decode k_P_price.2.1 48 = .ok (.iload 4, 2)) rfl) ?_
          obtain ⟨r12, m13, hr12, h⟩ := bn_some h
          have q14 := P_Ledger_tell_run hL hr12
          have c15 := (PC_13 hL).1
          have hL := q14.2
          refine ai (q_callV (pc := 50) (As := [.int 4, .int x1, .int x2, .int x3, .int x4]) (st := []) (st2 := [.int r12]) (b := 13) rfl rfl (by decide +kernel : decode k_P_price.2.1 50 = .ok (.invokevirtual 145, 3)) lc_11_145 mo_P_Ledger_tell ⟨Nat.le_of_ble_eq_true rfl, Nat.le_of_ble_eq_true rfl⟩ (Nat.le_of_ble_eq_true rfl) (Nat.le_of_ble_eq_true rfl) c15 q14.1) ?_
          cases h
          exact ⟨r_iret rfl (by decide +kernel : decode k_P_price.2.1 53 = .ok (.ireturn, 1)), hL⟩
set_option maxRecDepth 100000 in
set_option maxHeartbeats 4000000 in
theorem P_wet_run {x1 : Int32} {x2 : Int32} {x3 : Int32} {m m' : Mem} {r : Int32} (hL : PL m) (h : P_wet x1 x2 x3 m = some (r, m')) : Run k_P_wet 0 [(0, .ref 0), (1, .int x1), (2, .int x2), (3, .int x3)] [] m (some (.int r)) m' ∧ PL m' := by
  unfold P_wet at h
  refine ai (p_aload_n (pc := 0) (k := 0) (by decide +kernel : decode k_P_wet.2.1 0 = .ok (.aload_n 0, 1)) rfl rfl) ?_
  refine ai (p_getr (pc := 1) (PR_1408_0 hL) (by decide +kernel : decode k_P_wet.2.1 1 = .ok (.getfield 19, 3)) lg_11_19 (PC_0 hL).1) ?_
  refine ai (r_iload_n (pc := 4) (k := 1) (by decide +kernel : decode k_P_wet.2.1 4 = .ok (.iload_n 1, 1)) rfl rfl) ?_
  obtain ⟨r1, m2, hr1, h⟩ := bn_some h
  have q3 := P_Land_hasFirm_run hL hr1
  have c4 := (PC_5 hL).1
  have hL := q3.2
  refine ai (q_callV (pc := 5) (As := [.int x1]) (st := []) (st2 := [.int r1]) (b := 5) rfl rfl (by decide +kernel : decode k_P_wet.2.1 5 = .ok (.invokevirtual 125, 3)) lc_11_125 mo_P_Land_hasFirm ⟨Nat.le_of_ble_eq_true rfl, Nat.le_of_ble_eq_true rfl⟩ (Nat.le_of_ble_eq_true rfl) (Nat.le_of_ble_eq_true rfl) c4 q3.1) ?_
  rcases ite_some h with ⟨c5, h⟩ | ⟨c5, h⟩
  · refine ai (r_if_eq_t (pc := 8) (tgt := 28) (by decide +kernel : decode k_P_wet.2.1 8 = .ok (.ifCond .eq (20), 3)) (by decide) c5) ?_
    refine ai (r_iconst (pc := 28) (by decide +kernel : decode k_P_wet.2.1 28 = .ok (.iconst (-1), 1)) ic_m1) ?_
    cases h
    exact ⟨r_iret rfl (by decide +kernel : decode k_P_wet.2.1 29 = .ok (.ireturn, 1)), hL⟩
  · refine ai (r_if_eq_f (pc := 8) 28 (by decide +kernel : decode k_P_wet.2.1 8 = .ok (.ifCond .eq (20), 3)) (by decide) c5) ?_
    refine ai (r_iload_n (pc := 11) (k := 2) (by decide +kernel : decode k_P_wet.2.1 11 = .ok (.iload_n 2, 1)) rfl rfl) ?_
    obtain ⟨r6, hr6, h⟩ := bp_some h
    refine ai (q_callS (pc := 12) (As := [.int x2]) (st := []) (st2 := [.int r6]) rfl rfl (by decide +kernel : decode k_P_wet.2.1 12 = .ok (.invokestatic 149, 3)) lc_11_149 mo_P_isDay ⟨Nat.le_of_ble_eq_true rfl, Nat.le_of_ble_eq_true rfl⟩ (Nat.le_of_ble_eq_true rfl) (Nat.le_of_ble_eq_true rfl) (P_isDay_run hr6)) ?_
    rcases ite_some h with ⟨c7, h⟩ | ⟨c7, h⟩
    · refine ai (r_if_eq_t (pc := 15) (tgt := 28) (by decide +kernel : decode k_P_wet.2.1 15 = .ok (.ifCond .eq (13), 3)) (by decide) c7) ?_
      refine ai (r_iconst (pc := 28) (by decide +kernel : decode k_P_wet.2.1 28 = .ok (.iconst (-1), 1)) ic_m1) ?_
      cases h
      exact ⟨r_iret rfl (by decide +kernel : decode k_P_wet.2.1 29 = .ok (.ireturn, 1)), hL⟩
    · refine ai (r_if_eq_f (pc := 15) 28 (by decide +kernel : decode k_P_wet.2.1 15 = .ok (.ifCond .eq (13), 3)) (by decide) c7) ?_
      refine ai (r_iload_n (pc := 18) (k := 3) (by decide +kernel : decode k_P_wet.2.1 18 = .ok (.iload_n 3, 1)) rfl rfl) ?_
      refine ai (r_iconst (pc := 19) (by decide +kernel : decode k_P_wet.2.1 19 = .ok (.iconst 0, 1)) ic_0) ?_
      refine ai (r_bipush (pc := 20) (by decide +kernel : decode k_P_wet.2.1 20 = .ok (.bipush (9), 2)) (by decide : _ = (9 : Int32))) ?_
      obtain ⟨r8, hr8, h⟩ := bp_some h
      refine ai (q_callS (pc := 22) (As := [.int x3, .int 0, .int 9]) (st := []) (st2 := [.int r8]) rfl rfl (by decide +kernel : decode k_P_wet.2.1 22 = .ok (.invokestatic 117, 3)) lc_11_117 mo_P_within ⟨Nat.le_of_ble_eq_true rfl, Nat.le_of_ble_eq_true rfl⟩ (Nat.le_of_ble_eq_true rfl) (Nat.le_of_ble_eq_true rfl) (P_within_run hr8)) ?_
      rcases ite_some h with ⟨c9, h⟩ | ⟨c9, h⟩
      · refine ai (r_if_ne_f (pc := 25) 30 (by decide +kernel : decode k_P_wet.2.1 25 = .ok (.ifCond .ne (5), 3)) (by decide) c9) ?_
        refine ai (r_iconst (pc := 28) (by decide +kernel : decode k_P_wet.2.1 28 = .ok (.iconst (-1), 1)) ic_m1) ?_
        cases h
        exact ⟨r_iret rfl (by decide +kernel : decode k_P_wet.2.1 29 = .ok (.ireturn, 1)), hL⟩
      · refine ai (r_if_ne_t (pc := 25) (tgt := 30) (by decide +kernel : decode k_P_wet.2.1 25 = .ok (.ifCond .ne (5), 3)) (by decide) c9) ?_
        refine ai (p_aload_n (pc := 30) (k := 0) (by decide +kernel : decode k_P_wet.2.1 30 = .ok (.aload_n 0, 1)) rfl rfl) ?_
        refine ai (p_getr (pc := 31) (PR_1409_0 hL) (by decide +kernel : decode k_P_wet.2.1 31 = .ok (.getfield 26, 3)) lg_11_26 (PC_0 hL).1) ?_
        refine ai (r_iconst (pc := 34) (by decide +kernel : decode k_P_wet.2.1 34 = .ok (.iconst 5, 1)) ic_5) ?_
        refine ai (r_iload_n (pc := 35) (k := 1) (by decide +kernel : decode k_P_wet.2.1 35 = .ok (.iload_n 1, 1)) rfl rfl) ?_
        refine ai (r_iload_n (pc := 36) (k := 2) (by decide +kernel : decode k_P_wet.2.1 36 = .ok (.iload_n 2, 1)) rfl rfl) ?_
        refine ai (r_iconst (pc := 37) (by decide +kernel : decode k_P_wet.2.1 37 = .ok (.iconst 0, 1)) ic_0) ?_
        refine ai (r_iload_n (pc := 38) (k := 3) (by decide +kernel : decode k_P_wet.2.1 38 = .ok (.iload_n 3, 1)) rfl rfl) ?_
        obtain ⟨r10, m11, hr10, h⟩ := bn_some h
        have q12 := P_Ledger_tell_run hL hr10
        have c13 := (PC_13 hL).1
        have hL := q12.2
        refine ai (q_callV (pc := 39) (As := [.int 5, .int x1, .int x2, .int 0, .int x3]) (st := []) (st2 := [.int r10]) (b := 13) rfl rfl (by decide +kernel : decode k_P_wet.2.1 39 = .ok (.invokevirtual 145, 3)) lc_11_145 mo_P_Ledger_tell ⟨Nat.le_of_ble_eq_true rfl, Nat.le_of_ble_eq_true rfl⟩ (Nat.le_of_ble_eq_true rfl) (Nat.le_of_ble_eq_true rfl) c13 q12.1) ?_
        cases h
        exact ⟨r_iret rfl (by decide +kernel : decode k_P_wet.2.1 42 = .ok (.ireturn, 1)), hL⟩
set_option maxRecDepth 100000 in
set_option maxHeartbeats 4000000 in
theorem P_Land_hasPerson_run {x1 : Int32} {m m' : Mem} {r : Int32} (hL : PL m) (h : P_Land_hasPerson x1 m = some (r, m')) : Run k_P_Land_hasPerson 0 [(0, .ref 5), (1, .int x1)] [] m (some (.int r)) m' ∧ PL m' := by
  unfold P_Land_hasPerson at h
  refine ai (r_iload_n (pc := 0) (k := 1) (by decide +kernel : decode k_P_Land_hasPerson.2.1 0 = .ok (.iload_n 1, 1)) rfl rfl) ?_
  refine ai (r_iconst (pc := 1) (by decide +kernel : decode k_P_Land_hasPerson.2.1 1 = .ok (.iconst 0, 1)) ic_0) ?_
  refine ai (p_aload_n (pc := 2) (k := 0) (by decide +kernel : decode k_P_Land_hasPerson.2.1 2 = .ok (.aload_n 0, 1)) rfl rfl) ?_
  refine ai (r_getI (pc := 3) (by decide +kernel : decode k_P_Land_hasPerson.2.1 3 = .ok (.getfield 50, 3)) lg_3_50 (by decide) (PC_5 hL).1) ?_
  refine ai (r_iconst (pc := 6) (by decide +kernel : decode k_P_Land_hasPerson.2.1 6 = .ok (.iconst 1, 1)) ic_1) ?_
  refine ai (r_isub (pc := 7) (by decide +kernel : decode k_P_Land_hasPerson.2.1 7 = .ok (.isub, 1))) ?_
  obtain ⟨r1, hr1, h⟩ := bp_some h
  refine ai (q_callSN (pc := 8) (As := [.int x1, .int 0, .int ((mI m 386 5) - 1)]) (st := []) (st2 := [.int r1]) rfl rfl (by decide +kernel : decode k_P_Land_hasPerson.2.1 8 = .ok (.invokestatic 43, 3)) lc_3_43 mo_P_within ⟨Nat.le_of_ble_eq_true rfl, Nat.le_of_ble_eq_true rfl⟩ (Nat.le_of_ble_eq_true rfl) (Nat.le_of_ble_eq_true rfl) (P_within_run hr1)) ?_
  obtain ⟨z2, h⟩ := gz_some h
  cases h
  exact ⟨r_zret z2 rfl (by decide +kernel : decode k_P_Land_hasPerson.2.1 11 = .ok (.ireturn, 1)), hL⟩
set_option maxRecDepth 100000 in
set_option maxHeartbeats 4000000 in
theorem P_Ledger_tellRow_run {x1 : Int32} {x2 : Int32} {x3 : Int32} {m m' : Mem} {r : Int32} (hL : PL m) (h : P_Ledger_tellRow x1 x2 x3 m = some (r, m')) : Run k_P_Ledger_tellRow 0 [(0, .ref 13), (1, .int x1), (2, .int x2), (3, .int x3)] [] m (some (.int r)) m' ∧ PL m' := by
  unfold P_Ledger_tellRow at h
  refine ai (p_aload_n (pc := 0) (k := 0) (by decide +kernel : decode k_P_Ledger_tellRow.2.1 0 = .ok (.aload_n 0, 1)) rfl rfl) ?_
  obtain ⟨m1, hm1, h⟩ := vb_some h
  have hL : PL m1 := by rw [hm1]; exact PL.nw hL
  refine ai (p_new (pc := 1) hm1 (by decide +kernel : decode k_P_Ledger_tellRow.2.1 1 = .ok (.new 9, 3)) ln_4_9) ?_
  have t2 : mT m1 (mC m) = 1 := by rw [hm1]; exact up1_eq
  refine ai (r_dup (pc := 4) (by decide +kernel : decode k_P_Ledger_tellRow.2.1 4 = .ok (.dup, 1)) (rfl)) ?_
  refine ai (r_bipush (pc := 5) (by decide +kernel : decode k_P_Ledger_tellRow.2.1 5 = .ok (.bipush (6), 2)) (by decide : _ = (6 : Int32))) ?_
  refine ai (r_iload_n (pc := 7) (k := 1) (by decide +kernel : decode k_P_Ledger_tellRow.2.1 7 = .ok (.iload_n 1, 1)) rfl rfl) ?_
  refine ai (r_iload_n (pc := 8) (k := 2) (by decide +kernel : decode k_P_Ledger_tellRow.2.1 8 = .ok (.iload_n 2, 1)) rfl rfl) ?_
  refine ai (r_iconst (pc := 9) (by decide +kernel : decode k_P_Ledger_tellRow.2.1 9 = .ok (.iconst 0, 1)) ic_0) ?_
  refine ai (r_iconst (pc := 10) (by decide +kernel : decode k_P_Ledger_tellRow.2.1 10 = .ok (.iconst 0, 1)) ic_0) ?_
  refine ai (r_iload_n (pc := 11) (k := 3) (by decide +kernel : decode k_P_Ledger_tellRow.2.1 11 = .ok (.iload_n 3, 1)) rfl rfl) ?_
  refine ai (r_null (pc := 12) (by decide +kernel : decode k_P_Ledger_tellRow.2.1 12 = .ok (.aconst_null, 1))) ?_
  obtain ⟨r3, m4, hr3, h⟩ := bn_some h
  have q5 := P_Fact_init_run hL t2 hr3
  have hL := q5.2
  refine ai (q_callI (pc := 13) (As := [.int 6, .int x1, .int x2, .int 0, .int 0, .int x3, .null]) (st := [.ref (mC m), .ref 13]) (st2 := [.ref (mC m), .ref 13]) (b := mC m) rfl rfl (by decide +kernel : decode k_P_Ledger_tellRow.2.1 13 = .ok (.invokespecial 48, 3)) lc_4_48 mo_P_Fact_init ⟨Nat.le_of_ble_eq_true rfl, Nat.le_of_ble_eq_true rfl⟩ (Nat.le_of_ble_eq_true rfl) (Nat.le_of_ble_eq_true rfl) q5.1) ?_
  obtain ⟨r6, m7, hr6, h⟩ := bn_some h
  have q8 := P_Ledger_add_run hL hr6
  have c9 := (PC_13 hL).1
  have hL := q8.2
  refine ai (q_callV (pc := 16) (As := [.ref (mC m)]) (st := []) (st2 := [.int r6]) (b := 13) rfl rfl (by decide +kernel : decode k_P_Ledger_tellRow.2.1 16 = .ok (.invokevirtual 51, 3)) lc_4_51 mo_P_Ledger_add ⟨Nat.le_of_ble_eq_true rfl, Nat.le_of_ble_eq_true rfl⟩ (Nat.le_of_ble_eq_true rfl) (Nat.le_of_ble_eq_true rfl) c9 q8.1) ?_
  cases h
  exact ⟨r_iret rfl (by decide +kernel : decode k_P_Ledger_tellRow.2.1 19 = .ok (.ireturn, 1)), hL⟩
set_option maxRecDepth 100000 in
set_option maxHeartbeats 4000000 in
theorem P_row_51_run {s0 : Int32} {s1 : Int32} {s2 : Int32} {m m' : Mem} {r : Int32} (hL : PL m) (h : P_row_51 s0 s1 s2 m = some (r, m')) : Run k_P_row 51 [] [.int s0, .int s1, .int s2, .ref 13] m (some (.int r)) m' ∧ PL m' := by
  unfold P_row_51 at h
  obtain ⟨r1, m2, hr1, h⟩ := bn_some h
  have q3 := P_Ledger_tellRow_run hL hr1
  have c4 := (PC_13 hL).1
  have hL := q3.2
  refine ai (q_callV (pc := 51) (As := [.int s2, .int s1, .int s0]) (st := []) (st2 := [.int r1]) (b := 13) rfl rfl (by decide +kernel : decode k_P_row.2.1 51 = .ok (.invokevirtual 155, 3)) lc_11_155 mo_P_Ledger_tellRow ⟨Nat.le_of_ble_eq_true rfl, Nat.le_of_ble_eq_true rfl⟩ (Nat.le_of_ble_eq_true rfl) (Nat.le_of_ble_eq_true rfl) c4 q3.1) ?_
  cases h
  exact ⟨r_iret rfl (by decide +kernel : decode k_P_row.2.1 54 = .ok (.ireturn, 1)), hL⟩
set_option maxRecDepth 100000 in
set_option maxHeartbeats 4000000 in
theorem P_row_35_run {x1 : Int32} {x2 : Int32} {x3 : Int32} {m m' : Mem} {r : Int32} (hL : PL m) (h : P_row_35 x1 x2 x3 m = some (r, m')) : Run k_P_row 35 [(0, .ref 0), (1, .int x1), (2, .int x2), (3, .int x3)] [] m (some (.int r)) m' ∧ PL m' := by
  unfold P_row_35 at h
  refine ai (p_aload_n (pc := 35) (k := 0) (by decide +kernel : decode k_P_row.2.1 35 = .ok (.aload_n 0, 1)) rfl rfl) ?_
  refine ai (p_getr (pc := 36) (PR_1409_0 hL) (by decide +kernel : decode k_P_row.2.1 36 = .ok (.getfield 26, 3)) lg_11_26 (PC_0 hL).1) ?_
  refine ai (r_iload_n (pc := 39) (k := 1) (by decide +kernel : decode k_P_row.2.1 39 = .ok (.iload_n 1, 1)) rfl rfl) ?_
  refine ai (r_iload_n (pc := 40) (k := 2) (by decide +kernel : decode k_P_row.2.1 40 = .ok (.iload_n 2, 1)) rfl rfl) ?_
  refine ai (r_iload_n (pc := 41) (k := 3) (by decide +kernel : decode k_P_row.2.1 41 = .ok (.iload_n 3, 1)) rfl rfl) ?_
  refine ai (r_iconst (pc := 42) (by decide +kernel : decode k_P_row.2.1 42 = .ok (.iconst (-1), 1)) ic_m1) ?_
  rcases ite_some h with ⟨c1, h⟩ | ⟨c1, h⟩
  · refine ai (r_icmp_ne_f (pc := 43) 50 (by decide +kernel : decode k_P_row.2.1 43 = .ok (.if_icmp .ne (7), 3)) (by decide) c1) ?_
    refine ai (r_iconst (pc := 46) (by decide +kernel : decode k_P_row.2.1 46 = .ok (.iconst 0, 1)) ic_0) ?_
    refine ai (r_goto (pc := 47) (tgt := 51) (by decide +kernel : decode k_P_row.2.1 47 = .ok (.goto (4), 3)) (by decide)) ?_
    exact (ai (r_sub [] rfl) (P_row_51_run hL h))
  · refine ai (r_icmp_ne_t (pc := 43) (tgt := 50) (by decide +kernel : decode k_P_row.2.1 43 = .ok (.if_icmp .ne (7), 3)) (by decide) c1) ?_
    refine ai (r_iload_n (pc := 50) (k := 3) (by decide +kernel : decode k_P_row.2.1 50 = .ok (.iload_n 3, 1)) rfl rfl) ?_
    exact (ai (r_sub [] rfl) (P_row_51_run hL h))
set_option maxRecDepth 100000 in
set_option maxHeartbeats 4000000 in
theorem P_row_run {x1 : Int32} {x2 : Int32} {x3 : Int32} {m m' : Mem} {r : Int32} (hL : PL m) (h : P_row x1 x2 x3 m = some (r, m')) : Run k_P_row 0 [(0, .ref 0), (1, .int x1), (2, .int x2), (3, .int x3)] [] m (some (.int r)) m' ∧ PL m' := by
  unfold P_row at h
  refine ai (p_aload_n (pc := 0) (k := 0) (by decide +kernel : decode k_P_row.2.1 0 = .ok (.aload_n 0, 1)) rfl rfl) ?_
  refine ai (p_getr (pc := 1) (PR_1408_0 hL) (by decide +kernel : decode k_P_row.2.1 1 = .ok (.getfield 19, 3)) lg_11_19 (PC_0 hL).1) ?_
  refine ai (r_iload_n (pc := 4) (k := 1) (by decide +kernel : decode k_P_row.2.1 4 = .ok (.iload_n 1, 1)) rfl rfl) ?_
  obtain ⟨r1, m2, hr1, h⟩ := bn_some h
  have q3 := P_Land_hasPerson_run hL hr1
  have c4 := (PC_5 hL).1
  have hL := q3.2
  refine ai (q_callV (pc := 5) (As := [.int x1]) (st := []) (st2 := [.int r1]) (b := 5) rfl rfl (by decide +kernel : decode k_P_row.2.1 5 = .ok (.invokevirtual 152, 3)) lc_11_152 mo_P_Land_hasPerson ⟨Nat.le_of_ble_eq_true rfl, Nat.le_of_ble_eq_true rfl⟩ (Nat.le_of_ble_eq_true rfl) (Nat.le_of_ble_eq_true rfl) c4 q3.1) ?_
  rcases ite_some h with ⟨c5, h⟩ | ⟨c5, h⟩
  · refine ai (r_if_eq_t (pc := 8) (tgt := 33) (by decide +kernel : decode k_P_row.2.1 8 = .ok (.ifCond .eq (25), 3)) (by decide) c5) ?_
    refine ai (r_iconst (pc := 33) (by decide +kernel : decode k_P_row.2.1 33 = .ok (.iconst (-1), 1)) ic_m1) ?_
    cases h
    exact ⟨r_iret rfl (by decide +kernel : decode k_P_row.2.1 34 = .ok (.ireturn, 1)), hL⟩
  · refine ai (r_if_eq_f (pc := 8) 33 (by decide +kernel : decode k_P_row.2.1 8 = .ok (.ifCond .eq (25), 3)) (by decide) c5) ?_
    refine ai (r_iload_n (pc := 11) (k := 2) (by decide +kernel : decode k_P_row.2.1 11 = .ok (.iload_n 2, 1)) rfl rfl) ?_
    obtain ⟨r6, hr6, h⟩ := bp_some h
    refine ai (q_callS (pc := 12) (As := [.int x2]) (st := []) (st2 := [.int r6]) rfl rfl (by decide +kernel : decode k_P_row.2.1 12 = .ok (.invokestatic 149, 3)) lc_11_149 mo_P_isDay ⟨Nat.le_of_ble_eq_true rfl, Nat.le_of_ble_eq_true rfl⟩ (Nat.le_of_ble_eq_true rfl) (Nat.le_of_ble_eq_true rfl) (P_isDay_run hr6)) ?_
    rcases ite_some h with ⟨c7, h⟩ | ⟨c7, h⟩
    · refine ai (r_if_eq_t (pc := 15) (tgt := 33) (by decide +kernel : decode k_P_row.2.1 15 = .ok (.ifCond .eq (18), 3)) (by decide) c7) ?_
      refine ai (r_iconst (pc := 33) (by decide +kernel : decode k_P_row.2.1 33 = .ok (.iconst (-1), 1)) ic_m1) ?_
      cases h
      exact ⟨r_iret rfl (by decide +kernel : decode k_P_row.2.1 34 = .ok (.ireturn, 1)), hL⟩
    · refine ai (r_if_eq_f (pc := 15) 33 (by decide +kernel : decode k_P_row.2.1 15 = .ok (.ifCond .eq (18), 3)) (by decide) c7) ?_
      refine ai (r_iload_n (pc := 18) (k := 3) (by decide +kernel : decode k_P_row.2.1 18 = .ok (.iload_n 3, 1)) rfl rfl) ?_
      refine ai (r_iconst (pc := 19) (by decide +kernel : decode k_P_row.2.1 19 = .ok (.iconst (-1), 1)) ic_m1) ?_
      rcases ite_some h with ⟨c8, h⟩ | ⟨c8, h⟩
      · refine ai (r_icmp_eq_t (pc := 20) (tgt := 35) (by decide +kernel : decode k_P_row.2.1 20 = .ok (.if_icmp .eq (15), 3)) (by decide) c8) ?_
        exact (P_row_35_run hL h)
      · refine ai (r_icmp_eq_f (pc := 20) 35 (by decide +kernel : decode k_P_row.2.1 20 = .ok (.if_icmp .eq (15), 3)) (by decide) c8) ?_
        refine ai (r_iload_n (pc := 23) (k := 3) (by decide +kernel : decode k_P_row.2.1 23 = .ok (.iload_n 3, 1)) rfl rfl) ?_
        refine ai (r_iconst (pc := 24) (by decide +kernel : decode k_P_row.2.1 24 = .ok (.iconst 1, 1)) ic_1) ?_
        refine ai (r_bipush (pc := 25) (by decide +kernel : decode k_P_row.2.1 25 = .ok (.bipush (48), 2)) (by decide : _ = (48 : Int32))) ?_
        obtain ⟨r9, hr9, h⟩ := bp_some h
        refine ai (q_callS (pc := 27) (As := [.int x3, .int 1, .int 48]) (st := []) (st2 := [.int r9]) rfl rfl (by decide +kernel : decode k_P_row.2.1 27 = .ok (.invokestatic 117, 3)) lc_11_117 mo_P_within ⟨Nat.le_of_ble_eq_true rfl, Nat.le_of_ble_eq_true rfl⟩ (Nat.le_of_ble_eq_true rfl) (Nat.le_of_ble_eq_true rfl) (P_within_run hr9)) ?_
        rcases ite_some h with ⟨c10, h⟩ | ⟨c10, h⟩
        · refine ai (r_if_ne_f (pc := 30) 35 (by decide +kernel : decode k_P_row.2.1 30 = .ok (.ifCond .ne (5), 3)) (by decide) c10) ?_
          refine ai (r_iconst (pc := 33) (by decide +kernel : decode k_P_row.2.1 33 = .ok (.iconst (-1), 1)) ic_m1) ?_
          cases h
          exact ⟨r_iret rfl (by decide +kernel : decode k_P_row.2.1 34 = .ok (.ireturn, 1)), hL⟩
        · refine ai (r_if_ne_t (pc := 30) (tgt := 35) (by decide +kernel : decode k_P_row.2.1 30 = .ok (.ifCond .ne (5), 3)) (by decide) c10) ?_
          exact (P_row_35_run hL h)
set_option maxRecDepth 100000 in
set_option maxHeartbeats 4000000 in
theorem P_Ledger_factAt_run {x1 : Int32} {m m' : Mem} {r : Option Nat} (hL : PL m) (h : P_Ledger_factAt x1 m = some (r, m')) : Run k_P_Ledger_factAt 0 [(0, .ref 13), (1, .int x1)] [] m (some (va_rf r)) m' ∧ PL m' := by
  unfold P_Ledger_factAt at h
  refine ai (r_iload_n (pc := 0) (k := 1) (by decide +kernel : decode k_P_Ledger_factAt.2.1 0 = .ok (.iload_n 1, 1)) rfl rfl) ?_
  refine ai (r_iconst (pc := 1) (by decide +kernel : decode k_P_Ledger_factAt.2.1 1 = .ok (.iconst 0, 1)) ic_0) ?_
  refine ai (p_aload_n (pc := 2) (k := 0) (by decide +kernel : decode k_P_Ledger_factAt.2.1 2 = .ok (.aload_n 0, 1)) rfl rfl) ?_
  refine ai (r_getI (pc := 3) (by decide +kernel : decode k_P_Ledger_factAt.2.1 3 = .ok (.getfield 23, 3)) lg_4_23 (by decide) (PC_13 hL).1) ?_
  refine ai (r_iconst (pc := 6) (by decide +kernel : decode k_P_Ledger_factAt.2.1 6 = .ok (.iconst 1, 1)) ic_1) ?_
  refine ai (r_isub (pc := 7) (by decide +kernel : decode k_P_Ledger_factAt.2.1 7 = .ok (.isub, 1))) ?_
  obtain ⟨r1, hr1, h⟩ := bp_some h
  refine ai (q_callSN (pc := 8) (As := [.int x1, .int 0, .int ((mI m 514 13) - 1)]) (st := []) (st2 := [.int r1]) rfl rfl (by decide +kernel : decode k_P_Ledger_factAt.2.1 8 = .ok (.invokestatic 27, 3)) lc_4_27 mo_P_within ⟨Nat.le_of_ble_eq_true rfl, Nat.le_of_ble_eq_true rfl⟩ (Nat.le_of_ble_eq_true rfl) (Nat.le_of_ble_eq_true rfl) (P_within_run hr1)) ?_
  rcases ite_some h with ⟨c2, h⟩ | ⟨c2, h⟩
  · refine ai (r_if_eq_t (pc := 11) (tgt := 23) (by decide +kernel : decode k_P_Ledger_factAt.2.1 11 = .ok (.ifCond .eq (12), 3)) (by decide) c2) ?_
    refine ai (r_null (pc := 23) (by decide +kernel : decode k_P_Ledger_factAt.2.1 23 = .ok (.aconst_null, 1))) ?_
    cases h
    exact ⟨r_aret (o := none) rfl (Or.inl ⟨_, rfl⟩) (by decide +kernel : decode k_P_Ledger_factAt.2.1 24 = .ok (.areturn, 1)), hL⟩
  · refine ai (r_if_eq_f (pc := 11) 23 (by decide +kernel : decode k_P_Ledger_factAt.2.1 11 = .ok (.ifCond .eq (12), 3)) (by decide) c2) ?_
    refine ai (p_aload_n (pc := 14) (k := 0) (by decide +kernel : decode k_P_Ledger_factAt.2.1 14 = .ok (.aload_n 0, 1)) rfl rfl) ?_
    refine ai (p_getr (pc := 15) (PR_512_13 hL) (by decide +kernel : decode k_P_Ledger_factAt.2.1 15 = .ok (.getfield 11, 3)) lg_4_11 (PC_13 hL).1) ?_
    refine ai (r_iload_n (pc := 18) (k := 1) (by decide +kernel : decode k_P_Ledger_factAt.2.1 18 = .ok (.iload_n 1, 1)) rfl rfl) ?_
    obtain ⟨g3, h⟩ := gd_some h
    refine ai (p_aald (pc := 19) (j := 2) (by decide) (by decide +kernel : decode k_P_Ledger_factAt.2.1 19 = .ok (.aaload, 1)) (PC_14 hL).1 (PC_14 hL).2 g3) ?_
    refine ai (r_goto (pc := 20) (tgt := 24) (by decide +kernel : decode k_P_Ledger_factAt.2.1 20 = .ok (.goto (4), 3)) (by decide)) ?_
    cases h
    exact ⟨r_aret (o := _) rfl (Or.inl ⟨_, rfl⟩) (by decide +kernel : decode k_P_Ledger_factAt.2.1 24 = .ok (.areturn, 1)), hL⟩
set_option maxRecDepth 100000 in
set_option maxHeartbeats 4000000 in
theorem P_cell_67_run {x1 : Int32} {x2 : Int32} {x3 : Option Nat} {m m' : Mem} {r : Int32} (hL : PL m) (h : P_cell_67 x1 x2 x3 m = some (r, m')) : Run k_P_cell 67 [(1, .int x1), (2, .int x2), (3, va_rf x3)] [] m (some (.int r)) m' ∧ PL m' := by
  unfold P_cell_67 at h
  obtain ⟨a1, rfl, hha1⟩ := gs_some h
  have h := hha1
  refine ai (p_aload_n (pc := 67) (k := 2) (by decide +kernel : decode k_P_cell.2.1 67 = .ok (.aload_n 3, 1)) rfl rfl) ?_
  obtain ⟨t2, h⟩ := gt_some h
  obtain ⟨a3, o4, h⟩ := gs_some h
  refine ai (p_getr (pc := 68) o4 (by decide +kernel : decode k_P_cell.2.1 68 = .ok (.getfield 167, 3)) lg_11_167 t2) ?_
  refine ai (r_iload_n (pc := 71) (k := 0) (by decide +kernel : decode k_P_cell.2.1 71 = .ok (.iload_n 1, 1)) rfl rfl) ?_
  refine ai (r_iload_n (pc := 72) (k := 1) (by decide +kernel : decode k_P_cell.2.1 72 = .ok (.iload_n 2, 1)) rfl rfl) ?_
  obtain ⟨t5, h⟩ := gt_some h
  obtain ⟨g6, h⟩ := gd_some h
  obtain ⟨m7, hm7, h⟩ := vb_some h
  have hL : PL m7 := by rw [hm7]; exact hL
  have t8 : mT m7 a1 = 1 := by rw [hm7]; exact t2
  have t9 : mT m7 a3 = 32 := by rw [hm7]; exact t5
  refine ai (p_iast (pc := 73) hm7 (by decide +kernel : decode k_P_cell.2.1 73 = .ok (.iastore, 1)) t5 rfl g6) ?_
  refine ai (r_iconst (pc := 74) (by decide +kernel : decode k_P_cell.2.1 74 = .ok (.iconst 1, 1)) ic_1) ?_
  cases h
  exact ⟨r_zret (by decide) rfl (by decide +kernel : decode k_P_cell.2.1 75 = .ok (.ireturn, 1)), hL⟩
set_option maxRecDepth 100000 in
set_option maxHeartbeats 4000000 in
theorem P_cell_run {x1 : Int32} {x2 : Int32} {m m' : Mem} {r : Int32} (hL : PL m) (h : P_cell x1 x2 m = some (r, m')) : Run k_P_cell 0 [(0, .ref 0), (1, .int x1), (2, .int x2)] [] m (some (.int r)) m' ∧ PL m' := by
  unfold P_cell at h
  refine ai (p_aload_n (pc := 0) (k := 0) (by decide +kernel : decode k_P_cell.2.1 0 = .ok (.aload_n 0, 1)) rfl rfl) ?_
  refine ai (p_getr (pc := 1) (PR_1409_0 hL) (by decide +kernel : decode k_P_cell.2.1 1 = .ok (.getfield 26, 3)) lg_11_26 (PC_0 hL).1) ?_
  refine ai (p_aload_n (pc := 4) (k := 0) (by decide +kernel : decode k_P_cell.2.1 4 = .ok (.aload_n 0, 1)) rfl rfl) ?_
  refine ai (p_getr (pc := 5) (PR_1409_0 hL) (by decide +kernel : decode k_P_cell.2.1 5 = .ok (.getfield 26, 3)) lg_11_26 (PC_0 hL).1) ?_
  refine ai (r_getI (pc := 8) (by decide +kernel : decode k_P_cell.2.1 8 = .ok (.getfield 78, 3)) lg_11_78 (by decide) (PC_13 hL).1) ?_
  refine ai (r_iconst (pc := 11) (by decide +kernel : decode k_P_cell.2.1 11 = .ok (.iconst 1, 1)) ic_1) ?_
  refine ai (r_isub (pc := 12) (by decide +kernel : decode k_P_cell.2.1 12 = .ok (.isub, 1))) ?_
  obtain ⟨r1, m2, hr1, h⟩ := bn_some h
  have q3 := P_Ledger_factAt_run hL hr1
  have c4 := (PC_13 hL).1
  have hL := q3.2
  refine ai (q_callV (pc := 13) (As := [.int ((mI m 514 13) - 1)]) (st := []) (st2 := [va_rf r1]) (b := 13) rfl rfl (by decide +kernel : decode k_P_cell.2.1 13 = .ok (.invokevirtual 158, 3)) lc_11_158 mo_P_Ledger_factAt ⟨Nat.le_of_ble_eq_true rfl, Nat.le_of_ble_eq_true rfl⟩ (Nat.le_of_ble_eq_true rfl) (Nat.le_of_ble_eq_true rfl) c4 q3.1) ?_
  refine ai (r_astore_n (pc := 16) (by decide +kernel : decode k_P_cell.2.1 16 = .ok (.astore_n 3, 1)) rfl (by decide) rfl) ?_
  refine ai (r_aload_n (pc := 17) (k := 0) (by decide +kernel : decode k_P_cell.2.1 17 = .ok (.aload_n 3, 1)) rfl rfl) ?_
  rcases ite_some h with ⟨c5, h⟩ | ⟨c5, h⟩
  · refine ai (d_ifnull_t (pc := 18) (tgt := 45) c5 (by decide +kernel : decode k_P_cell.2.1 18 = .ok (.ifnull (27), 3)) (by decide)) ?_
    refine ai (r_iconst (pc := 45) (by decide +kernel : decode k_P_cell.2.1 45 = .ok (.iconst 0, 1)) ic_0) ?_
    cases h
    exact ⟨r_zret (by decide) rfl (by decide +kernel : decode k_P_cell.2.1 46 = .ok (.ireturn, 1)), hL⟩
  · refine ai (d_ifnull_f (pc := 18) c5 (by decide +kernel : decode k_P_cell.2.1 18 = .ok (.ifnull (27), 3))) ?_
    obtain ⟨a6, rfl, hha6⟩ := gs_some h
    have h := hha6
    refine ai (p_aload_n (pc := 21) (k := 0) (by decide +kernel : decode k_P_cell.2.1 21 = .ok (.aload_n 3, 1)) rfl rfl) ?_
    obtain ⟨t7, h⟩ := gt_some h
    refine ai (r_getI (pc := 22) (by decide +kernel : decode k_P_cell.2.1 22 = .ok (.getfield 162, 3)) lg_11_162 (by decide) t7) ?_
    refine ai (r_bipush (pc := 25) (by decide +kernel : decode k_P_cell.2.1 25 = .ok (.bipush (6), 2)) (by decide : _ = (6 : Int32))) ?_
    rcases ite_some h with ⟨c8, h⟩ | ⟨c8, h⟩
    · refine ai (r_icmp_ne_f (pc := 27) 45 (by decide +kernel : decode k_P_cell.2.1 27 = .ok (.if_icmp .ne (18), 3)) (by decide) c8) ?_
      refine ai (r_iload_n (pc := 30) (k := 2) (by decide +kernel : decode k_P_cell.2.1 30 = .ok (.iload_n 1, 1)) rfl rfl) ?_
      refine ai (r_iconst (pc := 31) (by decide +kernel : decode k_P_cell.2.1 31 = .ok (.iconst 0, 1)) ic_0) ?_
      refine ai (p_aload_n (pc := 32) (k := 0) (by decide +kernel : decode k_P_cell.2.1 32 = .ok (.aload_n 3, 1)) rfl rfl) ?_
      obtain ⟨a9, o10, h⟩ := gs_some h
      refine ai (p_getr (pc := 33) o10 (by decide +kernel : decode k_P_cell.2.1 33 = .ok (.getfield 167, 3)) lg_11_167 t7) ?_
      obtain ⟨t11, h⟩ := gt_some h
      refine ai (p_alen (pc := 36) (by decide +kernel : decode k_P_cell.2.1 36 = .ok (.arraylength, 1)) (by rw [t11]; decide) rfl rfl) ?_
      refine ai (r_iconst (pc := 37) (by decide +kernel : decode k_P_cell.2.1 37 = .ok (.iconst 1, 1)) ic_1) ?_
      refine ai (r_isub (pc := 38) (by decide +kernel : decode k_P_cell.2.1 38 = .ok (.isub, 1))) ?_
      obtain ⟨r12, hr12, h⟩ := bp_some h
      refine ai (q_callS (pc := 39) (As := [.int x1, .int 0, .int ((Int32.ofNat (mN m2 a9)) - 1)]) (st := []) (st2 := [.int r12]) rfl rfl (by decide +kernel : decode k_P_cell.2.1 39 = .ok (.invokestatic 117, 3)) lc_11_117 mo_P_within ⟨Nat.le_of_ble_eq_true rfl, Nat.le_of_ble_eq_true rfl⟩ (Nat.le_of_ble_eq_true rfl) (Nat.le_of_ble_eq_true rfl) (P_within_run hr12)) ?_
      rcases ite_some h with ⟨c13, h⟩ | ⟨c13, h⟩
      · refine ai (r_if_ne_f (pc := 42) 47 (by decide +kernel : decode k_P_cell.2.1 42 = .ok (.ifCond .ne (5), 3)) (by decide) c13) ?_
        refine ai (r_iconst (pc := 45) (by decide +kernel : decode k_P_cell.2.1 45 = .ok (.iconst 0, 1)) ic_0) ?_
        cases h
        exact ⟨r_zret (by decide) rfl (by decide +kernel : decode k_P_cell.2.1 46 = .ok (.ireturn, 1)), hL⟩
      · refine ai (r_if_ne_t (pc := 42) (tgt := 47) (by decide +kernel : decode k_P_cell.2.1 42 = .ok (.ifCond .ne (5), 3)) (by decide) c13) ?_
        refine ai (r_iload_n (pc := 47) (k := 3) (by decide +kernel : decode k_P_cell.2.1 47 = .ok (.iload_n 2, 1)) rfl rfl) ?_
        refine ai (r_iconst (pc := 48) (by decide +kernel : decode k_P_cell.2.1 48 = .ok (.iconst (-1), 1)) ic_m1) ?_
        rcases ite_some h with ⟨c14, h⟩ | ⟨c14, h⟩
        · refine ai (r_icmp_eq_t (pc := 49) (tgt := 67) (by decide +kernel : decode k_P_cell.2.1 49 = .ok (.if_icmp .eq (18), 3)) (by decide) c14) ?_
          exact (ai (r_sub [2, 3, 0] rfl) (P_cell_67_run hL h))
        · refine ai (r_icmp_eq_f (pc := 49) 67 (by decide +kernel : decode k_P_cell.2.1 49 = .ok (.if_icmp .eq (18), 3)) (by decide) c14) ?_
          refine ai (r_iload_n (pc := 52) (k := 3) (by decide +kernel : decode k_P_cell.2.1 52 = .ok (.iload_n 2, 1)) rfl rfl) ?_
          refine ai (r_bipush (pc := 53) (by decide +kernel : decode k_P_cell.2.1 53 = .ok (.bipush (16), 2)) (by decide : _ = (16 : Int32))) ?_
          rcases ite_some h with ⟨c15, h⟩ | ⟨c15, h⟩
          · refine ai (r_icmp_eq_t (pc := 55) (tgt := 67) (by decide +kernel : decode k_P_cell.2.1 55 = .ok (.if_icmp .eq (12), 3)) (by decide) c15) ?_
            exact (ai (r_sub [2, 3, 0] rfl) (P_cell_67_run hL h))
          · refine ai (r_icmp_eq_f (pc := 55) 67 (by decide +kernel : decode k_P_cell.2.1 55 = .ok (.if_icmp .eq (12), 3)) (by decide) c15) ?_
            refine ai (r_iload_n (pc := 58) (k := 3) (by decide +kernel : decode k_P_cell.2.1 58 = .ok (.iload_n 2, 1)) rfl rfl) ?_
            obtain ⟨r16, hr16, h⟩ := bp_some h
            refine ai (q_callS (pc := 59) (As := [.int x2]) (st := []) (st2 := [.int r16]) rfl rfl (by decide +kernel : decode k_P_cell.2.1 59 = .ok (.invokestatic 132, 3)) lc_11_132 mo_P_isTask ⟨Nat.le_of_ble_eq_true rfl, Nat.le_of_ble_eq_true rfl⟩ (Nat.le_of_ble_eq_true rfl) (Nat.le_of_ble_eq_true rfl) (P_isTask_run hr16)) ?_
            rcases ite_some h with ⟨c17, h⟩ | ⟨c17, h⟩
            · refine ai (r_if_ne_f (pc := 62) 67 (by decide +kernel : decode k_P_cell.2.1 62 = .ok (.ifCond .ne (5), 3)) (by decide) c17) ?_
              refine ai (r_iconst (pc := 65) (by decide +kernel : decode k_P_cell.2.1 65 = .ok (.iconst 0, 1)) ic_0) ?_
              cases h
              exact ⟨r_zret (by decide) rfl (by decide +kernel : decode k_P_cell.2.1 66 = .ok (.ireturn, 1)), hL⟩
            · refine ai (r_if_ne_t (pc := 62) (tgt := 67) (by decide +kernel : decode k_P_cell.2.1 62 = .ok (.ifCond .ne (5), 3)) (by decide) c17) ?_
              exact (ai (r_sub [2, 3, 0] rfl) (P_cell_67_run hL h))
    · refine ai (r_icmp_ne_t (pc := 27) (tgt := 45) (by decide +kernel : decode k_P_cell.2.1 27 = .ok (.if_icmp .ne (18), 3)) (by decide) c8) ?_
      refine ai (r_iconst (pc := 45) (by decide +kernel : decode k_P_cell.2.1 45 = .ok (.iconst 0, 1)) ic_0) ?_
      cases h
      exact ⟨r_zret (by decide) rfl (by decide +kernel : decode k_P_cell.2.1 46 = .ok (.ireturn, 1)), hL⟩
set_option maxRecDepth 100000 in
set_option maxHeartbeats 4000000 in
theorem P_Ledger_textAt_14_run {s0 : Option Nat} {m m' : Mem} {r : Option Nat} (hL : PL m) (h : P_Ledger_textAt_14 s0 m = some (r, m')) : Run k_P_Ledger_textAt 14 [] [va_rf s0] m (some (va_rf r)) m' ∧ PL m' := by
  unfold P_Ledger_textAt_14 at h
  refine ai (r_astore_n (pc := 14) (by decide +kernel : decode k_P_Ledger_textAt.2.1 14 = .ok (.astore_n 3, 1)) rfl (by decide) rfl) ?_
  refine ai (r_aload_n (pc := 15) (k := 0) (by decide +kernel : decode k_P_Ledger_textAt.2.1 15 = .ok (.aload_n 3, 1)) rfl rfl) ?_
  rcases ite_some h with ⟨c1, h⟩ | ⟨c1, h⟩
  · refine ai (d_ifnonnull_f (pc := 16) c1 (by decide +kernel : decode k_P_Ledger_textAt.2.1 16 = .ok (.ifnonnull (7), 3))) ?_
    refine ai (r_null (pc := 19) (by decide +kernel : decode k_P_Ledger_textAt.2.1 19 = .ok (.aconst_null, 1))) ?_
    refine ai (r_goto (pc := 20) (tgt := 27) (by decide +kernel : decode k_P_Ledger_textAt.2.1 20 = .ok (.goto (7), 3)) (by decide)) ?_
    cases h
    exact ⟨r_aret (o := none) rfl (Or.inl ⟨_, rfl⟩) (by decide +kernel : decode k_P_Ledger_textAt.2.1 27 = .ok (.areturn, 1)), hL⟩
  · refine ai (d_ifnonnull_t (pc := 16) (tgt := 23) c1 (by decide +kernel : decode k_P_Ledger_textAt.2.1 16 = .ok (.ifnonnull (7), 3)) (by decide)) ?_
    obtain ⟨a2, rfl, hha2⟩ := gs_some h
    have h := hha2
    refine ai (p_aload_n (pc := 23) (k := 0) (by decide +kernel : decode k_P_Ledger_textAt.2.1 23 = .ok (.aload_n 3, 1)) rfl rfl) ?_
    obtain ⟨t3, h⟩ := gt_some h
    refine ai (p_getR (pc := 24) (by decide +kernel : decode k_P_Ledger_textAt.2.1 24 = .ok (.getfield 35, 3)) lg_4_35 t3) ?_
    cases h
    exact ⟨r_aret (o := _) rfl (Or.inl ⟨_, rfl⟩) (by decide +kernel : decode k_P_Ledger_textAt.2.1 27 = .ok (.areturn, 1)), hL⟩
set_option maxRecDepth 100000 in
set_option maxHeartbeats 4000000 in
theorem P_Ledger_textAt_run {x1 : Int32} {x2 : Int32} {m m' : Mem} {r : Option Nat} (hL : PL m) (h : P_Ledger_textAt x1 x2 m = some (r, m')) : Run k_P_Ledger_textAt 0 [(0, .ref 13), (1, .int x1), (2, .int x2)] [] m (some (va_rf r)) m' ∧ PL m' := by
  unfold P_Ledger_textAt at h
  refine ai (r_iload_n (pc := 0) (k := 1) (by decide +kernel : decode k_P_Ledger_textAt.2.1 0 = .ok (.iload_n 1, 1)) rfl rfl) ?_
  refine ai (r_iload_n (pc := 1) (k := 2) (by decide +kernel : decode k_P_Ledger_textAt.2.1 1 = .ok (.iload_n 2, 1)) rfl rfl) ?_
  rcases ite_some h with ⟨c1, h⟩ | ⟨c1, h⟩
  · refine ai (r_icmp_ge_t (pc := 2) (tgt := 13) (by decide +kernel : decode k_P_Ledger_textAt.2.1 2 = .ok (.if_icmp .ge (11), 3)) (by decide) c1) ?_
    refine ai (r_null (pc := 13) (by decide +kernel : decode k_P_Ledger_textAt.2.1 13 = .ok (.aconst_null, 1))) ?_
    exact (ai (r_sub [] rfl) (P_Ledger_textAt_14_run hL h))
  · refine ai (r_icmp_ge_f (pc := 2) 13 (by decide +kernel : decode k_P_Ledger_textAt.2.1 2 = .ok (.if_icmp .ge (11), 3)) (by decide) c1) ?_
    refine ai (p_aload_n (pc := 5) (k := 0) (by decide +kernel : decode k_P_Ledger_textAt.2.1 5 = .ok (.aload_n 0, 1)) rfl rfl) ?_
    refine ai (r_iload_n (pc := 6) (k := 1) (by decide +kernel : decode k_P_Ledger_textAt.2.1 6 = .ok (.iload_n 1, 1)) rfl rfl) ?_
    obtain ⟨r2, m3, hr2, h⟩ := bn_some h
    have q4 := P_Ledger_factAt_run hL hr2
    have c5 := (PC_13 hL).1
    have hL := q4.2
    refine ai (q_callV (pc := 7) (As := [.int x1]) (st := []) (st2 := [va_rf r2]) (b := 13) rfl rfl (by decide +kernel : decode k_P_Ledger_textAt.2.1 7 = .ok (.invokevirtual 31, 3)) lc_4_31 mo_P_Ledger_factAt ⟨Nat.le_of_ble_eq_true rfl, Nat.le_of_ble_eq_true rfl⟩ (Nat.le_of_ble_eq_true rfl) (Nat.le_of_ble_eq_true rfl) c5 q4.1) ?_
    refine ai (r_goto (pc := 10) (tgt := 14) (by decide +kernel : decode k_P_Ledger_textAt.2.1 10 = .ok (.goto (4), 3)) (by decide)) ?_
    exact (ai (r_sub [] rfl) (P_Ledger_textAt_14_run hL h))
set_option maxRecDepth 100000 in
set_option maxHeartbeats 4000000 in
theorem P_isName_run {x1 : Int32} {m m' : Mem} {r : Int32} (hL : PL m) (h : P_isName x1 m = some (r, m')) : Run k_P_isName 0 [(0, .ref 0), (1, .int x1)] [] m (some (.int r)) m' ∧ PL m' := by
  unfold P_isName at h
  refine ai (r_iload_n (pc := 0) (k := 1) (by decide +kernel : decode k_P_isName.2.1 0 = .ok (.iload_n 1, 1)) rfl rfl) ?_
  refine ai (r_iconst (pc := 1) (by decide +kernel : decode k_P_isName.2.1 1 = .ok (.iconst 0, 1)) ic_0) ?_
  refine ai (p_aload_n (pc := 2) (k := 0) (by decide +kernel : decode k_P_isName.2.1 2 = .ok (.aload_n 0, 1)) rfl rfl) ?_
  refine ai (p_getr (pc := 3) (PR_1411_0 hL) (by decide +kernel : decode k_P_isName.2.1 3 = .ok (.getfield 42, 3)) lg_11_42 (PC_0 hL).1) ?_
  refine ai (r_getI (pc := 6) (by decide +kernel : decode k_P_isName.2.1 6 = .ok (.getfield 364, 3)) lg_11_364 (by decide) (PC_22 hL).1) ?_
  refine ai (r_iconst (pc := 9) (by decide +kernel : decode k_P_isName.2.1 9 = .ok (.iconst 1, 1)) ic_1) ?_
  refine ai (r_isub (pc := 10) (by decide +kernel : decode k_P_isName.2.1 10 = .ok (.isub, 1))) ?_
  obtain ⟨r1, hr1, h⟩ := bp_some h
  refine ai (q_callS (pc := 11) (As := [.int x1, .int 0, .int ((mI m 771 22) - 1)]) (st := []) (st2 := [.int r1]) rfl rfl (by decide +kernel : decode k_P_isName.2.1 11 = .ok (.invokestatic 117, 3)) lc_11_117 mo_P_within ⟨Nat.le_of_ble_eq_true rfl, Nat.le_of_ble_eq_true rfl⟩ (Nat.le_of_ble_eq_true rfl) (Nat.le_of_ble_eq_true rfl) (P_within_run hr1)) ?_
  obtain ⟨z2, h⟩ := gz_some h
  cases h
  exact ⟨r_zret z2 rfl (by decide +kernel : decode k_P_isName.2.1 14 = .ok (.ireturn, 1)), hL⟩
set_option maxRecDepth 100000 in
set_option maxHeartbeats 4000000 in
theorem P_tellClaim_run {x1 : Int32} {x2 : Int32} {x3 : Int32} {x4 : Int32} {m m' : Mem} {r : Int32} (hL : PL m) (h : P_tellClaim x1 x2 x3 x4 m = some (r, m')) : Run k_P_tellClaim 0 [(0, .ref 0), (1, .int x1), (2, .int x2), (3, .int x3), (4, .int x4)] [] m (some (.int r)) m' ∧ PL m' := by
  unfold P_tellClaim at h
  refine ai (p_aload_n (pc := 0) (k := 0) (by decide +kernel : decode k_P_tellClaim.2.1 0 = .ok (.aload_n 0, 1)) rfl rfl) ?_
  refine ai (p_getr (pc := 1) (PR_1409_0 hL) (by decide +kernel : decode k_P_tellClaim.2.1 1 = .ok (.getfield 26, 3)) lg_11_26 (PC_0 hL).1) ?_
  refine ai (r_iload_n (pc := 4) (k := 2) (by decide +kernel : decode k_P_tellClaim.2.1 4 = .ok (.iload_n 2, 1)) rfl rfl) ?_
  refine ai (p_aload_n (pc := 5) (k := 0) (by decide +kernel : decode k_P_tellClaim.2.1 5 = .ok (.aload_n 0, 1)) rfl rfl) ?_
  refine ai (p_getr (pc := 6) (PR_1409_0 hL) (by decide +kernel : decode k_P_tellClaim.2.1 6 = .ok (.getfield 26, 3)) lg_11_26 (PC_0 hL).1) ?_
  refine ai (r_getI (pc := 9) (by decide +kernel : decode k_P_tellClaim.2.1 9 = .ok (.getfield 78, 3)) lg_11_78 (by decide) (PC_13 hL).1) ?_
  obtain ⟨r1, m2, hr1, h⟩ := bn_some h
  have q3 := P_Ledger_textAt_run hL hr1
  have c4 := (PC_13 hL).1
  have hL := q3.2
  refine ai (q_callV (pc := 12) (As := [.int x2, .int (mI m 514 13)]) (st := []) (st2 := [va_rf r1]) (b := 13) rfl rfl (by decide +kernel : decode k_P_tellClaim.2.1 12 = .ok (.invokevirtual 174, 3)) lc_11_174 mo_P_Ledger_textAt ⟨Nat.le_of_ble_eq_true rfl, Nat.le_of_ble_eq_true rfl⟩ (Nat.le_of_ble_eq_true rfl) (Nat.le_of_ble_eq_true rfl) c4 q3.1) ?_
  refine ai (r_astore (pc := 15) (by decide +kernel : decode k_P_tellClaim.2.1 15 = .ok (.astore 5, 2)) (by decide) rfl) ?_
  refine ai (r_aload (pc := 17) (k := 0) (by decide +kernel : decode k_P_tellClaim.2.1 17 = .ok (.aload 5, 2)) rfl) ?_
  rcases ite_some h with ⟨c5, h⟩ | ⟨c5, h⟩
  · refine ai (d_ifnull_t (pc := 19) (tgt := 50) c5 (by decide +kernel : decode k_P_tellClaim.2.1 19 = .ok (.ifnull (31), 3)) (by decide)) ?_
    refine ai (r_iconst (pc := 50) (by decide +kernel : decode k_P_tellClaim.2.1 50 = .ok (.iconst (-1), 1)) ic_m1) ?_
    cases h
    exact ⟨r_iret rfl (by decide +kernel : decode k_P_tellClaim.2.1 51 = .ok (.ireturn, 1)), hL⟩
  · refine ai (d_ifnull_f (pc := 19) c5 (by decide +kernel : decode k_P_tellClaim.2.1 19 = .ok (.ifnull (31), 3))) ?_
    obtain ⟨a6, rfl, hha6⟩ := gs_some h
    have h := hha6
    refine ai (p_aload (pc := 22) (k := 0) (by decide +kernel : decode k_P_tellClaim.2.1 22 = .ok (.aload 5, 2)) rfl) ?_
    obtain ⟨t7, h⟩ := gt_some h
    refine ai (r_getI (pc := 24) (by decide +kernel : decode k_P_tellClaim.2.1 24 = .ok (.getfield 178, 3)) lg_11_178 (by decide) t7) ?_
    rcases ite_some h with ⟨c8, h⟩ | ⟨c8, h⟩
    · refine ai (r_if_ne_f (pc := 27) 50 (by decide +kernel : decode k_P_tellClaim.2.1 27 = .ok (.ifCond .ne (23), 3)) (by decide) c8) ?_
      refine ai (p_aload_n (pc := 30) (k := 1) (by decide +kernel : decode k_P_tellClaim.2.1 30 = .ok (.aload_n 0, 1)) rfl rfl) ?_
      refine ai (r_iload_n (pc := 31) (k := 4) (by decide +kernel : decode k_P_tellClaim.2.1 31 = .ok (.iload_n 3, 1)) rfl rfl) ?_
      obtain ⟨r9, m10, hr9, h⟩ := bn_some h
      have q11 := P_isName_run hL hr9
      have c12 := (PC_0 hL).1
      have hL := q11.2
      refine ai (q_callV (pc := 32) (As := [.int x3]) (st := []) (st2 := [.int r9]) (b := 0) rfl rfl (by decide +kernel : decode k_P_tellClaim.2.1 32 = .ok (.invokevirtual 181, 3)) lc_11_181 mo_P_isName ⟨Nat.le_of_ble_eq_true rfl, Nat.le_of_ble_eq_true rfl⟩ (Nat.le_of_ble_eq_true rfl) (Nat.le_of_ble_eq_true rfl) c12 q11.1) ?_
      rcases ite_some h with ⟨c13, h⟩ | ⟨c13, h⟩
      · refine ai (r_if_eq_t (pc := 35) (tgt := 50) (by decide +kernel : decode k_P_tellClaim.2.1 35 = .ok (.ifCond .eq (15), 3)) (by decide) c13) ?_
        refine ai (r_iconst (pc := 50) (by decide +kernel : decode k_P_tellClaim.2.1 50 = .ok (.iconst (-1), 1)) ic_m1) ?_
        cases h
        exact ⟨r_iret rfl (by decide +kernel : decode k_P_tellClaim.2.1 51 = .ok (.ireturn, 1)), hL⟩
      · refine ai (r_if_eq_f (pc := 35) 50 (by decide +kernel : decode k_P_tellClaim.2.1 35 = .ok (.ifCond .eq (15), 3)) (by decide) c13) ?_
        refine ai (r_iload (pc := 38) (k := 5) (by decide +kernel : decode k_P_tellClaim.2.1 38 = .ok (.iload 4, 2)) rfl) ?_
        refine ai (r_iconst (pc := 40) (by decide +kernel : decode k_P_tellClaim.2.1 40 = .ok (.iconst 0, 1)) ic_0) ?_
        refine ai (r_sipush (pc := 41) (by decide +kernel : decode k_P_tellClaim.2.1 41 = .ok (.sipush (9999), 3)) (by decide : _ = (9999 : Int32))) ?_
        obtain ⟨r14, hr14, h⟩ := bp_some h
        refine ai (q_callS (pc := 44) (As := [.int x4, .int 0, .int 9999]) (st := []) (st2 := [.int r14]) rfl rfl (by decide +kernel : decode k_P_tellClaim.2.1 44 = .ok (.invokestatic 117, 3)) lc_11_117 mo_P_within ⟨Nat.le_of_ble_eq_true rfl, Nat.le_of_ble_eq_true rfl⟩ (Nat.le_of_ble_eq_true rfl) (Nat.le_of_ble_eq_true rfl) (P_within_run hr14)) ?_
        rcases ite_some h with ⟨c15, h⟩ | ⟨c15, h⟩
        · refine ai (r_if_ne_f (pc := 47) 52 (by decide +kernel : decode k_P_tellClaim.2.1 47 = .ok (.ifCond .ne (5), 3)) (by decide) c15) ?_
          refine ai (r_iconst (pc := 50) (by decide +kernel : decode k_P_tellClaim.2.1 50 = .ok (.iconst (-1), 1)) ic_m1) ?_
          cases h
          exact ⟨r_iret rfl (by decide +kernel : decode k_P_tellClaim.2.1 51 = .ok (.ireturn, 1)), hL⟩
        · refine ai (r_if_ne_t (pc := 47) (tgt := 52) (by decide +kernel : decode k_P_tellClaim.2.1 47 = .ok (.ifCond .ne (5), 3)) (by decide) c15) ?_
          refine ai (p_aload_n (pc := 52) (k := 1) (by decide +kernel : decode k_P_tellClaim.2.1 52 = .ok (.aload_n 0, 1)) rfl rfl) ?_
          refine ai (p_getr (pc := 53) (PR_1409_0 hL) (by decide +kernel : decode k_P_tellClaim.2.1 53 = .ok (.getfield 26, 3)) lg_11_26 (PC_0 hL).1) ?_
          refine ai (r_iload_n (pc := 56) (k := 2) (by decide +kernel : decode k_P_tellClaim.2.1 56 = .ok (.iload_n 1, 1)) rfl rfl) ?_
          refine ai (r_iload_n (pc := 57) (k := 3) (by decide +kernel : decode k_P_tellClaim.2.1 57 = .ok (.iload_n 2, 1)) rfl rfl) ?_
          refine ai (r_iconst (pc := 58) (by decide +kernel : decode k_P_tellClaim.2.1 58 = .ok (.iconst 0, 1)) ic_0) ?_
          refine ai (r_iload_n (pc := 59) (k := 4) (by decide +kernel : decode k_P_tellClaim.2.1 59 = .ok (.iload_n 3, 1)) rfl rfl) ?_
          refine ai (r_iload (pc := 60) (k := 5) (by decide +kernel : decode k_P_tellClaim.2.1 60 = .ok (.iload 4, 2)) rfl) ?_
          obtain ⟨r16, m17, hr16, h⟩ := bn_some h
          have q18 := P_Ledger_tell_run hL hr16
          have c19 := (PC_13 hL).1
          have hL := q18.2
          refine ai (q_callV (pc := 62) (As := [.int x1, .int x2, .int 0, .int x3, .int x4]) (st := []) (st2 := [.int r16]) (b := 13) rfl rfl (by decide +kernel : decode k_P_tellClaim.2.1 62 = .ok (.invokevirtual 145, 3)) lc_11_145 mo_P_Ledger_tell ⟨Nat.le_of_ble_eq_true rfl, Nat.le_of_ble_eq_true rfl⟩ (Nat.le_of_ble_eq_true rfl) (Nat.le_of_ble_eq_true rfl) c19 q18.1) ?_
          cases h
          exact ⟨r_iret rfl (by decide +kernel : decode k_P_tellClaim.2.1 65 = .ok (.ireturn, 1)), hL⟩
    · refine ai (r_if_ne_t (pc := 27) (tgt := 50) (by decide +kernel : decode k_P_tellClaim.2.1 27 = .ok (.ifCond .ne (23), 3)) (by decide) c8) ?_
      refine ai (r_iconst (pc := 50) (by decide +kernel : decode k_P_tellClaim.2.1 50 = .ok (.iconst (-1), 1)) ic_m1) ?_
      cases h
      exact ⟨r_iret rfl (by decide +kernel : decode k_P_tellClaim.2.1 51 = .ok (.ireturn, 1)), hL⟩
set_option maxRecDepth 100000 in
set_option maxHeartbeats 4000000 in
theorem P_log_run {x1 : Int32} {x2 : Int32} {x3 : Int32} {m m' : Mem} {r : Int32} (hL : PL m) (h : P_log x1 x2 x3 m = some (r, m')) : Run k_P_log 0 [(0, .ref 0), (1, .int x1), (2, .int x2), (3, .int x3)] [] m (some (.int r)) m' ∧ PL m' := by
  unfold P_log at h
  refine ai (p_aload_n (pc := 0) (k := 0) (by decide +kernel : decode k_P_log.2.1 0 = .ok (.aload_n 0, 1)) rfl rfl) ?_
  refine ai (r_bipush (pc := 1) (by decide +kernel : decode k_P_log.2.1 1 = .ok (.bipush (7), 2)) (by decide : _ = (7 : Int32))) ?_
  refine ai (r_iload_n (pc := 3) (k := 1) (by decide +kernel : decode k_P_log.2.1 3 = .ok (.iload_n 1, 1)) rfl rfl) ?_
  refine ai (r_iload_n (pc := 4) (k := 2) (by decide +kernel : decode k_P_log.2.1 4 = .ok (.iload_n 2, 1)) rfl rfl) ?_
  refine ai (r_iload_n (pc := 5) (k := 3) (by decide +kernel : decode k_P_log.2.1 5 = .ok (.iload_n 3, 1)) rfl rfl) ?_
  obtain ⟨r1, m2, hr1, h⟩ := bn_some h
  have q3 := P_tellClaim_run hL hr1
  have c4 := (PC_0 hL).1
  have hL := q3.2
  refine ai (q_callV (pc := 6) (As := [.int 7, .int x1, .int x2, .int x3]) (st := []) (st2 := [.int r1]) (b := 0) rfl rfl (by decide +kernel : decode k_P_log.2.1 6 = .ok (.invokevirtual 170, 3)) lc_11_170 mo_P_tellClaim ⟨Nat.le_of_ble_eq_true rfl, Nat.le_of_ble_eq_true rfl⟩ (Nat.le_of_ble_eq_true rfl) (Nat.le_of_ble_eq_true rfl) c4 q3.1) ?_
  cases h
  exact ⟨r_iret rfl (by decide +kernel : decode k_P_log.2.1 9 = .ok (.ireturn, 1)), hL⟩
set_option maxRecDepth 100000 in
set_option maxHeartbeats 4000000 in
theorem P_answer_run {x1 : Int32} {x2 : Int32} {x3 : Int32} {m m' : Mem} {r : Int32} (hL : PL m) (h : P_answer x1 x2 x3 m = some (r, m')) : Run k_P_answer 0 [(0, .ref 0), (1, .int x1), (2, .int x2), (3, .int x3)] [] m (some (.int r)) m' ∧ PL m' := by
  unfold P_answer at h
  refine ai (p_aload_n (pc := 0) (k := 0) (by decide +kernel : decode k_P_answer.2.1 0 = .ok (.aload_n 0, 1)) rfl rfl) ?_
  refine ai (r_bipush (pc := 1) (by decide +kernel : decode k_P_answer.2.1 1 = .ok (.bipush (8), 2)) (by decide : _ = (8 : Int32))) ?_
  refine ai (r_iload_n (pc := 3) (k := 1) (by decide +kernel : decode k_P_answer.2.1 3 = .ok (.iload_n 1, 1)) rfl rfl) ?_
  refine ai (r_iload_n (pc := 4) (k := 2) (by decide +kernel : decode k_P_answer.2.1 4 = .ok (.iload_n 2, 1)) rfl rfl) ?_
  refine ai (r_iload_n (pc := 5) (k := 3) (by decide +kernel : decode k_P_answer.2.1 5 = .ok (.iload_n 3, 1)) rfl rfl) ?_
  obtain ⟨r1, m2, hr1, h⟩ := bn_some h
  have q3 := P_tellClaim_run hL hr1
  have c4 := (PC_0 hL).1
  have hL := q3.2
  refine ai (q_callV (pc := 6) (As := [.int 8, .int x1, .int x2, .int x3]) (st := []) (st2 := [.int r1]) (b := 0) rfl rfl (by decide +kernel : decode k_P_answer.2.1 6 = .ok (.invokevirtual 170, 3)) lc_11_170 mo_P_tellClaim ⟨Nat.le_of_ble_eq_true rfl, Nat.le_of_ble_eq_true rfl⟩ (Nat.le_of_ble_eq_true rfl) (Nat.le_of_ble_eq_true rfl) c4 q3.1) ?_
  cases h
  exact ⟨r_iret rfl (by decide +kernel : decode k_P_answer.2.1 9 = .ok (.ireturn, 1)), hL⟩
set_option maxRecDepth 100000 in
set_option maxHeartbeats 4000000 in
theorem P_paid_run {x1 : Int32} {x2 : Int32} {x3 : Int32} {m m' : Mem} {r : Int32} (hL : PL m) (h : P_paid x1 x2 x3 m = some (r, m')) : Run k_P_paid 0 [(0, .ref 0), (1, .int x1), (2, .int x2), (3, .int x3)] [] m (some (.int r)) m' ∧ PL m' := by
  unfold P_paid at h
  refine ai (p_aload_n (pc := 0) (k := 0) (by decide +kernel : decode k_P_paid.2.1 0 = .ok (.aload_n 0, 1)) rfl rfl) ?_
  refine ai (p_getr (pc := 1) (PR_1408_0 hL) (by decide +kernel : decode k_P_paid.2.1 1 = .ok (.getfield 19, 3)) lg_11_19 (PC_0 hL).1) ?_
  refine ai (r_iload_n (pc := 4) (k := 1) (by decide +kernel : decode k_P_paid.2.1 4 = .ok (.iload_n 1, 1)) rfl rfl) ?_
  obtain ⟨r1, m2, hr1, h⟩ := bn_some h
  have q3 := P_Land_hasPerson_run hL hr1
  have c4 := (PC_5 hL).1
  have hL := q3.2
  refine ai (q_callV (pc := 5) (As := [.int x1]) (st := []) (st2 := [.int r1]) (b := 5) rfl rfl (by decide +kernel : decode k_P_paid.2.1 5 = .ok (.invokevirtual 152, 3)) lc_11_152 mo_P_Land_hasPerson ⟨Nat.le_of_ble_eq_true rfl, Nat.le_of_ble_eq_true rfl⟩ (Nat.le_of_ble_eq_true rfl) (Nat.le_of_ble_eq_true rfl) c4 q3.1) ?_
  rcases ite_some h with ⟨c5, h⟩ | ⟨c5, h⟩
  · refine ai (r_if_eq_t (pc := 8) (tgt := 29) (by decide +kernel : decode k_P_paid.2.1 8 = .ok (.ifCond .eq (21), 3)) (by decide) c5) ?_
    refine ai (r_iconst (pc := 29) (by decide +kernel : decode k_P_paid.2.1 29 = .ok (.iconst (-1), 1)) ic_m1) ?_
    cases h
    exact ⟨r_iret rfl (by decide +kernel : decode k_P_paid.2.1 30 = .ok (.ireturn, 1)), hL⟩
  · refine ai (r_if_eq_f (pc := 8) 29 (by decide +kernel : decode k_P_paid.2.1 8 = .ok (.ifCond .eq (21), 3)) (by decide) c5) ?_
    refine ai (r_iload_n (pc := 11) (k := 2) (by decide +kernel : decode k_P_paid.2.1 11 = .ok (.iload_n 2, 1)) rfl rfl) ?_
    obtain ⟨r6, hr6, h⟩ := bp_some h
    refine ai (q_callS (pc := 12) (As := [.int x2]) (st := []) (st2 := [.int r6]) rfl rfl (by decide +kernel : decode k_P_paid.2.1 12 = .ok (.invokestatic 184, 3)) lc_11_184 mo_P_isWeek ⟨Nat.le_of_ble_eq_true rfl, Nat.le_of_ble_eq_true rfl⟩ (Nat.le_of_ble_eq_true rfl) (Nat.le_of_ble_eq_true rfl) (P_isWeek_run hr6)) ?_
    rcases ite_some h with ⟨c7, h⟩ | ⟨c7, h⟩
    · refine ai (r_if_eq_t (pc := 15) (tgt := 29) (by decide +kernel : decode k_P_paid.2.1 15 = .ok (.ifCond .eq (14), 3)) (by decide) c7) ?_
      refine ai (r_iconst (pc := 29) (by decide +kernel : decode k_P_paid.2.1 29 = .ok (.iconst (-1), 1)) ic_m1) ?_
      cases h
      exact ⟨r_iret rfl (by decide +kernel : decode k_P_paid.2.1 30 = .ok (.ireturn, 1)), hL⟩
    · refine ai (r_if_eq_f (pc := 15) 29 (by decide +kernel : decode k_P_paid.2.1 15 = .ok (.ifCond .eq (14), 3)) (by decide) c7) ?_
      refine ai (r_iload_n (pc := 18) (k := 3) (by decide +kernel : decode k_P_paid.2.1 18 = .ok (.iload_n 3, 1)) rfl rfl) ?_
      refine ai (r_ldc (pc := 19) (by decide +kernel : decode k_P_paid.2.1 19 = .ok (.ldc 187, 2)) lk_11_187) ?_
      refine ai (r_ldc (pc := 21) (by decide +kernel : decode k_P_paid.2.1 21 = .ok (.ldc 188, 2)) lk_11_188) ?_
      obtain ⟨r8, hr8, h⟩ := bp_some h
      refine ai (q_callS (pc := 23) (As := [.int x3, .int (-99999), .int 99999]) (st := []) (st2 := [.int r8]) rfl rfl (by decide +kernel : decode k_P_paid.2.1 23 = .ok (.invokestatic 117, 3)) lc_11_117 mo_P_within ⟨Nat.le_of_ble_eq_true rfl, Nat.le_of_ble_eq_true rfl⟩ (Nat.le_of_ble_eq_true rfl) (Nat.le_of_ble_eq_true rfl) (P_within_run hr8)) ?_
      rcases ite_some h with ⟨c9, h⟩ | ⟨c9, h⟩
      · refine ai (r_if_ne_f (pc := 26) 31 (by decide +kernel : decode k_P_paid.2.1 26 = .ok (.ifCond .ne (5), 3)) (by decide) c9) ?_
        refine ai (r_iconst (pc := 29) (by decide +kernel : decode k_P_paid.2.1 29 = .ok (.iconst (-1), 1)) ic_m1) ?_
        cases h
        exact ⟨r_iret rfl (by decide +kernel : decode k_P_paid.2.1 30 = .ok (.ireturn, 1)), hL⟩
      · refine ai (r_if_ne_t (pc := 26) (tgt := 31) (by decide +kernel : decode k_P_paid.2.1 26 = .ok (.ifCond .ne (5), 3)) (by decide) c9) ?_
        refine ai (p_aload_n (pc := 31) (k := 0) (by decide +kernel : decode k_P_paid.2.1 31 = .ok (.aload_n 0, 1)) rfl rfl) ?_
        refine ai (p_getr (pc := 32) (PR_1409_0 hL) (by decide +kernel : decode k_P_paid.2.1 32 = .ok (.getfield 26, 3)) lg_11_26 (PC_0 hL).1) ?_
        refine ai (r_bipush (pc := 35) (by decide +kernel : decode k_P_paid.2.1 35 = .ok (.bipush (9), 2)) (by decide : _ = (9 : Int32))) ?_
        refine ai (r_iload_n (pc := 37) (k := 1) (by decide +kernel : decode k_P_paid.2.1 37 = .ok (.iload_n 1, 1)) rfl rfl) ?_
        refine ai (r_iload_n (pc := 38) (k := 2) (by decide +kernel : decode k_P_paid.2.1 38 = .ok (.iload_n 2, 1)) rfl rfl) ?_
        refine ai (r_iconst (pc := 39) (by decide +kernel : decode k_P_paid.2.1 39 = .ok (.iconst 0, 1)) ic_0) ?_
        refine ai (r_iload_n (pc := 40) (k := 3) (by decide +kernel : decode k_P_paid.2.1 40 = .ok (.iload_n 3, 1)) rfl rfl) ?_
        obtain ⟨r10, m11, hr10, h⟩ := bn_some h
        have q12 := P_Ledger_tell_run hL hr10
        have c13 := (PC_13 hL).1
        have hL := q12.2
        refine ai (q_callV (pc := 41) (As := [.int 9, .int x1, .int x2, .int 0, .int x3]) (st := []) (st2 := [.int r10]) (b := 13) rfl rfl (by decide +kernel : decode k_P_paid.2.1 41 = .ok (.invokevirtual 145, 3)) lc_11_145 mo_P_Ledger_tell ⟨Nat.le_of_ble_eq_true rfl, Nat.le_of_ble_eq_true rfl⟩ (Nat.le_of_ble_eq_true rfl) (Nat.le_of_ble_eq_true rfl) c13 q12.1) ?_
        cases h
        exact ⟨r_iret rfl (by decide +kernel : decode k_P_paid.2.1 44 = .ok (.ireturn, 1)), hL⟩
set_option maxRecDepth 100000 in
set_option maxHeartbeats 4000000 in
theorem P_stay_run {x1 : Int32} {x2 : Int32} {x3 : Int32} {m m' : Mem} {r : Int32} (hL : PL m) (h : P_stay x1 x2 x3 m = some (r, m')) : Run k_P_stay 0 [(0, .ref 0), (1, .int x1), (2, .int x2), (3, .int x3)] [] m (some (.int r)) m' ∧ PL m' := by
  unfold P_stay at h
  refine ai (p_aload_n (pc := 0) (k := 0) (by decide +kernel : decode k_P_stay.2.1 0 = .ok (.aload_n 0, 1)) rfl rfl) ?_
  refine ai (p_getr (pc := 1) (PR_1409_0 hL) (by decide +kernel : decode k_P_stay.2.1 1 = .ok (.getfield 26, 3)) lg_11_26 (PC_0 hL).1) ?_
  refine ai (r_iload_n (pc := 4) (k := 1) (by decide +kernel : decode k_P_stay.2.1 4 = .ok (.iload_n 1, 1)) rfl rfl) ?_
  refine ai (p_aload_n (pc := 5) (k := 0) (by decide +kernel : decode k_P_stay.2.1 5 = .ok (.aload_n 0, 1)) rfl rfl) ?_
  refine ai (p_getr (pc := 6) (PR_1409_0 hL) (by decide +kernel : decode k_P_stay.2.1 6 = .ok (.getfield 26, 3)) lg_11_26 (PC_0 hL).1) ?_
  refine ai (r_getI (pc := 9) (by decide +kernel : decode k_P_stay.2.1 9 = .ok (.getfield 78, 3)) lg_11_78 (by decide) (PC_13 hL).1) ?_
  obtain ⟨r1, m2, hr1, h⟩ := bn_some h
  have q3 := P_Ledger_textAt_run hL hr1
  have c4 := (PC_13 hL).1
  have hL := q3.2
  refine ai (q_callV (pc := 12) (As := [.int x1, .int (mI m 514 13)]) (st := []) (st2 := [va_rf r1]) (b := 13) rfl rfl (by decide +kernel : decode k_P_stay.2.1 12 = .ok (.invokevirtual 174, 3)) lc_11_174 mo_P_Ledger_textAt ⟨Nat.le_of_ble_eq_true rfl, Nat.le_of_ble_eq_true rfl⟩ (Nat.le_of_ble_eq_true rfl) (Nat.le_of_ble_eq_true rfl) c4 q3.1) ?_
  rcases ite_some h with ⟨c5, h⟩ | ⟨c5, h⟩
  · refine ai (d_ifnull_t (pc := 15) (tgt := 34) c5 (by decide +kernel : decode k_P_stay.2.1 15 = .ok (.ifnull (19), 3)) (by decide)) ?_
    refine ai (r_iconst (pc := 34) (by decide +kernel : decode k_P_stay.2.1 34 = .ok (.iconst (-1), 1)) ic_m1) ?_
    cases h
    exact ⟨r_iret rfl (by decide +kernel : decode k_P_stay.2.1 35 = .ok (.ireturn, 1)), hL⟩
  · refine ai (d_ifnull_f (pc := 15) c5 (by decide +kernel : decode k_P_stay.2.1 15 = .ok (.ifnull (19), 3))) ?_
    refine ai (r_iload_n (pc := 18) (k := 2) (by decide +kernel : decode k_P_stay.2.1 18 = .ok (.iload_n 2, 1)) rfl rfl) ?_
    rcases ite_some h with ⟨c6, h⟩ | ⟨c6, h⟩
    · refine ai (r_if_lt_t (pc := 19) (tgt := 34) (by decide +kernel : decode k_P_stay.2.1 19 = .ok (.ifCond .lt (15), 3)) (by decide) c6) ?_
      refine ai (r_iconst (pc := 34) (by decide +kernel : decode k_P_stay.2.1 34 = .ok (.iconst (-1), 1)) ic_m1) ?_
      cases h
      exact ⟨r_iret rfl (by decide +kernel : decode k_P_stay.2.1 35 = .ok (.ireturn, 1)), hL⟩
    · refine ai (r_if_lt_f (pc := 19) 34 (by decide +kernel : decode k_P_stay.2.1 19 = .ok (.ifCond .lt (15), 3)) (by decide) c6) ?_
      refine ai (r_iload_n (pc := 22) (k := 2) (by decide +kernel : decode k_P_stay.2.1 22 = .ok (.iload_n 2, 1)) rfl rfl) ?_
      refine ai (r_iload_n (pc := 23) (k := 3) (by decide +kernel : decode k_P_stay.2.1 23 = .ok (.iload_n 3, 1)) rfl rfl) ?_
      rcases ite_some h with ⟨c7, h⟩ | ⟨c7, h⟩
      · refine ai (r_icmp_ge_t (pc := 24) (tgt := 34) (by decide +kernel : decode k_P_stay.2.1 24 = .ok (.if_icmp .ge (10), 3)) (by decide) c7) ?_
        refine ai (r_iconst (pc := 34) (by decide +kernel : decode k_P_stay.2.1 34 = .ok (.iconst (-1), 1)) ic_m1) ?_
        cases h
        exact ⟨r_iret rfl (by decide +kernel : decode k_P_stay.2.1 35 = .ok (.ireturn, 1)), hL⟩
      · refine ai (r_icmp_ge_f (pc := 24) 34 (by decide +kernel : decode k_P_stay.2.1 24 = .ok (.if_icmp .ge (10), 3)) (by decide) c7) ?_
        refine ai (r_iload_n (pc := 27) (k := 3) (by decide +kernel : decode k_P_stay.2.1 27 = .ok (.iload_n 3, 1)) rfl rfl) ?_
        refine ai (r_sipush (pc := 28) (by decide +kernel : decode k_P_stay.2.1 28 = .ok (.sipush (140), 3)) (by decide : _ = (140 : Int32))) ?_
        rcases ite_some h with ⟨c8, h⟩ | ⟨c8, h⟩
        · refine ai (r_icmp_le_t (pc := 31) (tgt := 36) (by decide +kernel : decode k_P_stay.2.1 31 = .ok (.if_icmp .le (5), 3)) (by decide) c8) ?_
          refine ai (p_aload_n (pc := 36) (k := 0) (by decide +kernel : decode k_P_stay.2.1 36 = .ok (.aload_n 0, 1)) rfl rfl) ?_
          refine ai (p_getr (pc := 37) (PR_1409_0 hL) (by decide +kernel : decode k_P_stay.2.1 37 = .ok (.getfield 26, 3)) lg_11_26 (PC_0 hL).1) ?_
          refine ai (r_bipush (pc := 40) (by decide +kernel : decode k_P_stay.2.1 40 = .ok (.bipush (10), 2)) (by decide : _ = (10 : Int32))) ?_
          refine ai (r_iload_n (pc := 42) (k := 1) (by decide +kernel : decode k_P_stay.2.1 42 = .ok (.iload_n 1, 1)) rfl rfl) ?_
          refine ai (r_iload_n (pc := 43) (k := 2) (by decide +kernel : decode k_P_stay.2.1 43 = .ok (.iload_n 2, 1)) rfl rfl) ?_
          refine ai (r_iconst (pc := 44) (by decide +kernel : decode k_P_stay.2.1 44 = .ok (.iconst 0, 1)) ic_0) ?_
          refine ai (r_iload_n (pc := 45) (k := 3) (by decide +kernel : decode k_P_stay.2.1 45 = .ok (.iload_n 3, 1)) rfl rfl) ?_
          obtain ⟨r9, m10, hr9, h⟩ := bn_some h
          have q11 := P_Ledger_tell_run hL hr9
          have c12 := (PC_13 hL).1
          have hL := q11.2
          refine ai (q_callV (pc := 46) (As := [.int 10, .int x1, .int x2, .int 0, .int x3]) (st := []) (st2 := [.int r9]) (b := 13) rfl rfl (by decide +kernel : decode k_P_stay.2.1 46 = .ok (.invokevirtual 145, 3)) lc_11_145 mo_P_Ledger_tell ⟨Nat.le_of_ble_eq_true rfl, Nat.le_of_ble_eq_true rfl⟩ (Nat.le_of_ble_eq_true rfl) (Nat.le_of_ble_eq_true rfl) c12 q11.1) ?_
          cases h
          exact ⟨r_iret rfl (by decide +kernel : decode k_P_stay.2.1 49 = .ok (.ireturn, 1)), hL⟩
        · refine ai (r_icmp_le_f (pc := 31) 36 (by decide +kernel : decode k_P_stay.2.1 31 = .ok (.if_icmp .le (5), 3)) (by decide) c8) ?_
          refine ai (r_iconst (pc := 34) (by decide +kernel : decode k_P_stay.2.1 34 = .ok (.iconst (-1), 1)) ic_m1) ?_
          cases h
          exact ⟨r_iret rfl (by decide +kernel : decode k_P_stay.2.1 35 = .ok (.ireturn, 1)), hL⟩
set_option maxRecDepth 100000 in
set_option maxHeartbeats 4000000 in
theorem P_Ledger_canKnow_run {x1 : Int32} {m m' : Mem} {r : Int32} (hL : PL m) (h : P_Ledger_canKnow x1 m = some (r, m')) : Run k_P_Ledger_canKnow 0 [(0, .ref 13), (1, .int x1)] [] m (some (.int r)) m' ∧ PL m' := by
  unfold P_Ledger_canKnow at h
  refine ai (r_iload_n (pc := 0) (k := 1) (by decide +kernel : decode k_P_Ledger_canKnow.2.1 0 = .ok (.iload_n 1, 1)) rfl rfl) ?_
  refine ai (r_iconst (pc := 1) (by decide +kernel : decode k_P_Ledger_canKnow.2.1 1 = .ok (.iconst 0, 1)) ic_0) ?_
  refine ai (p_aload_n (pc := 2) (k := 0) (by decide +kernel : decode k_P_Ledger_canKnow.2.1 2 = .ok (.aload_n 0, 1)) rfl rfl) ?_
  refine ai (r_getI (pc := 3) (by decide +kernel : decode k_P_Ledger_canKnow.2.1 3 = .ok (.getfield 23, 3)) lg_4_23 (by decide) (PC_13 hL).1) ?_
  obtain ⟨r1, hr1, h⟩ := bp_some h
  refine ai (q_callSN (pc := 6) (As := [.int x1, .int 0, .int (mI m 514 13)]) (st := []) (st2 := [.int r1]) rfl rfl (by decide +kernel : decode k_P_Ledger_canKnow.2.1 6 = .ok (.invokestatic 27, 3)) lc_4_27 mo_P_within ⟨Nat.le_of_ble_eq_true rfl, Nat.le_of_ble_eq_true rfl⟩ (Nat.le_of_ble_eq_true rfl) (Nat.le_of_ble_eq_true rfl) (P_within_run hr1)) ?_
  obtain ⟨z2, h⟩ := gz_some h
  cases h
  exact ⟨r_zret z2 rfl (by decide +kernel : decode k_P_Ledger_canKnow.2.1 9 = .ok (.ireturn, 1)), hL⟩
