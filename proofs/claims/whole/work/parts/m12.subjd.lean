/-! written by gen/emit.py -/
set_option maxRecDepth 100000 in
set_option maxHeartbeats 4000000 in
theorem P_Ledger_lastPrice_80_run {k9 : Int32 → Int32 → Int32 → Int32 → Int32 → Int32 → Int32 → Mem → Option (Int32 × Mem)} {x1 : Int32} {x2 : Int32} {x3 : Int32} {x4 : Int32} {x5 : Int32} {x6 : Int32} {x7 : Int32} {m m' : Mem} {r : Int32} (hk9 : ∀ (x1 : Int32) (x2 : Int32) (x3 : Int32) (x4 : Int32) (x5 : Int32) (x6 : Int32) (x7 : Int32) (m : Mem) (r : Int32) (m' : Mem), PL m → k9 x1 x2 x3 x4 x5 x6 x7 m = some (r, m') → Run k_P_Ledger_lastPrice 9 [(0, .ref 13), (1, .int x1), (2, .int x2), (3, .int x3), (4, .int x4), (5, .int x5), (6, .int x6), (7, .int x7)] [] m (some (.int r)) m' ∧ PL m') (hL : PL m) (h : P_Ledger_lastPrice_80 k9 x1 x2 x3 x4 x5 x6 x7 m = some (r, m')) : Run k_P_Ledger_lastPrice 80 [(0, .ref 13), (1, .int x1), (2, .int x2), (3, .int x3), (4, .int x4), (5, .int x5), (6, .int x6), (7, .int x7)] [] m (some (.int r)) m' ∧ PL m' := by
  unfold P_Ledger_lastPrice_80 at h
  obtain ⟨v1, hv1, h⟩ := vb_some h
  refine ai (e_iinc (pc := 80) (k := 7) hv1 ic_1 (by decide +kernel : decode k_P_Ledger_lastPrice.2.1 80 = .ok (.iinc 7 (1), 3)) rfl (by decide) rfl) ?_
  refine ai (r_goto (pc := 83) (tgt := 9) (by decide +kernel : decode k_P_Ledger_lastPrice.2.1 83 = .ok (.goto (-74), 3)) (by decide)) ?_
  exact (ai (r_sub [1, 2, 3, 4, 5, 6, 7, 0] rfl) (hk9 x1 x2 x3 x4 x5 x6 v1 m _ _ hL h))
set_option maxRecDepth 100000 in
set_option maxHeartbeats 4000000 in
theorem P_Ledger_lastPrice_9_run {n : Nat} {x1 : Int32} {x2 : Int32} {x3 : Int32} {x4 : Int32} {x5 : Int32} {x6 : Int32} {x7 : Int32} {m m' : Mem} {r : Int32} (hL : PL m) (h : P_Ledger_lastPrice_9 n x1 x2 x3 x4 x5 x6 x7 m = some (r, m')) : Run k_P_Ledger_lastPrice 9 [(0, .ref 13), (1, .int x1), (2, .int x2), (3, .int x3), (4, .int x4), (5, .int x5), (6, .int x6), (7, .int x7)] [] m (some (.int r)) m' ∧ PL m' := by
  induction n generalizing x1 x2 x3 x4 x5 x6 x7 m r m' with
  | zero => exact absurd h (by simp [P_Ledger_lastPrice_9])
  | succ n ih =>
    rw [P_Ledger_lastPrice_9.eq_2] at h
    refine ai (r_iload (pc := 9) (k := 7) (by decide +kernel : decode k_P_Ledger_lastPrice.2.1 9 = .ok (.iload 7, 2)) rfl) ?_
    refine ai (r_iload (pc := 11) (k := 4) (by decide +kernel : decode k_P_Ledger_lastPrice.2.1 11 = .ok (.iload 4, 2)) rfl) ?_
    rcases ite_some h with ⟨c1, h⟩ | ⟨c1, h⟩
    · refine ai (r_icmp_ge_t (pc := 13) (tgt := 86) (by decide +kernel : decode k_P_Ledger_lastPrice.2.1 13 = .ok (.if_icmp .ge (73), 3)) (by decide) c1) ?_
      refine ai (r_iload (pc := 86) (k := 6) (by decide +kernel : decode k_P_Ledger_lastPrice.2.1 86 = .ok (.iload 6, 2)) rfl) ?_
      cases h
      exact ⟨r_iret rfl (by decide +kernel : decode k_P_Ledger_lastPrice.2.1 88 = .ok (.ireturn, 1)), hL⟩
    · refine ai (r_icmp_ge_f (pc := 13) 86 (by decide +kernel : decode k_P_Ledger_lastPrice.2.1 13 = .ok (.if_icmp .ge (73), 3)) (by decide) c1) ?_
      refine ai (p_aload_n (pc := 16) (k := 0) (by decide +kernel : decode k_P_Ledger_lastPrice.2.1 16 = .ok (.aload_n 0, 1)) rfl rfl) ?_
      refine ai (p_getr (pc := 17) (PR_512_13 hL) (by decide +kernel : decode k_P_Ledger_lastPrice.2.1 17 = .ok (.getfield 11, 3)) lg_4_11 (PC_13 hL).1) ?_
      refine ai (r_iload (pc := 20) (k := 7) (by decide +kernel : decode k_P_Ledger_lastPrice.2.1 20 = .ok (.iload 7, 2)) rfl) ?_
      obtain ⟨g2, h⟩ := gd_some h
      obtain ⟨a3, o4, h⟩ := gs_some h
      refine ai (p_aaldr (pc := 22) (j := 2) (by decide) o4 (by decide +kernel : decode k_P_Ledger_lastPrice.2.1 22 = .ok (.aaload, 1)) (PC_14 hL).1 (PC_14 hL).2 g2) ?_
      refine ai (p_astore (pc := 23) (by decide +kernel : decode k_P_Ledger_lastPrice.2.1 23 = .ok (.astore 8, 2)) (by decide) rfl) ?_
      refine ai (p_aload (pc := 25) (k := 0) (by decide +kernel : decode k_P_Ledger_lastPrice.2.1 25 = .ok (.aload 8, 2)) rfl) ?_
      obtain ⟨t5, h⟩ := gt_some h
      refine ai (r_getI (pc := 27) (by decide +kernel : decode k_P_Ledger_lastPrice.2.1 27 = .ok (.getfield 58, 3)) lg_4_58 (by decide) t5) ?_
      refine ai (r_iconst (pc := 30) (by decide +kernel : decode k_P_Ledger_lastPrice.2.1 30 = .ok (.iconst 4, 1)) ic_4) ?_
      rcases ite_some h with ⟨c6, h⟩ | ⟨c6, h⟩
      · refine ai (r_icmp_ne_f (pc := 31) 80 (by decide +kernel : decode k_P_Ledger_lastPrice.2.1 31 = .ok (.if_icmp .ne (49), 3)) (by decide) c6) ?_
        refine ai (p_aload (pc := 34) (k := 0) (by decide +kernel : decode k_P_Ledger_lastPrice.2.1 34 = .ok (.aload 8, 2)) rfl) ?_
        refine ai (r_getI (pc := 36) (by decide +kernel : decode k_P_Ledger_lastPrice.2.1 36 = .ok (.getfield 59, 3)) lg_4_59 (by decide) t5) ?_
        refine ai (r_iload_n (pc := 39) (k := 2) (by decide +kernel : decode k_P_Ledger_lastPrice.2.1 39 = .ok (.iload_n 1, 1)) rfl rfl) ?_
        rcases ite_some h with ⟨c7, h⟩ | ⟨c7, h⟩
        · refine ai (r_icmp_ne_f (pc := 40) 80 (by decide +kernel : decode k_P_Ledger_lastPrice.2.1 40 = .ok (.if_icmp .ne (40), 3)) (by decide) c7) ?_
          refine ai (p_aload (pc := 43) (k := 0) (by decide +kernel : decode k_P_Ledger_lastPrice.2.1 43 = .ok (.aload 8, 2)) rfl) ?_
          refine ai (r_getI (pc := 45) (by decide +kernel : decode k_P_Ledger_lastPrice.2.1 45 = .ok (.getfield 62, 3)) lg_4_62 (by decide) t5) ?_
          refine ai (r_iload_n (pc := 48) (k := 4) (by decide +kernel : decode k_P_Ledger_lastPrice.2.1 48 = .ok (.iload_n 3, 1)) rfl rfl) ?_
          rcases ite_some h with ⟨c8, h⟩ | ⟨c8, h⟩
          · refine ai (r_icmp_ne_f (pc := 49) 80 (by decide +kernel : decode k_P_Ledger_lastPrice.2.1 49 = .ok (.if_icmp .ne (31), 3)) (by decide) c8) ?_
            refine ai (p_aload (pc := 52) (k := 0) (by decide +kernel : decode k_P_Ledger_lastPrice.2.1 52 = .ok (.aload 8, 2)) rfl) ?_
            refine ai (r_getI (pc := 54) (by decide +kernel : decode k_P_Ledger_lastPrice.2.1 54 = .ok (.getfield 65, 3)) lg_4_65 (by decide) t5) ?_
            refine ai (r_iload (pc := 57) (k := 6) (by decide +kernel : decode k_P_Ledger_lastPrice.2.1 57 = .ok (.iload 5, 2)) rfl) ?_
            refine ai (r_iload_n (pc := 59) (k := 3) (by decide +kernel : decode k_P_Ledger_lastPrice.2.1 59 = .ok (.iload_n 2, 1)) rfl rfl) ?_
            obtain ⟨r9, hr9, h⟩ := bp_some h
            refine ai (q_callSN (pc := 60) (As := [.int (mI m 2 a3), .int x5, .int x2]) (st := []) (st2 := [.int r9]) rfl rfl (by decide +kernel : decode k_P_Ledger_lastPrice.2.1 60 = .ok (.invokestatic 27, 3)) lc_4_27 mo_P_within ⟨Nat.le_of_ble_eq_true rfl, Nat.le_of_ble_eq_true rfl⟩ (Nat.le_of_ble_eq_true rfl) (Nat.le_of_ble_eq_true rfl) (P_within_run hr9)) ?_
            rcases ite_some h with ⟨c10, h⟩ | ⟨c10, h⟩
            · refine ai (r_if_eq_t (pc := 63) (tgt := 80) (by decide +kernel : decode k_P_Ledger_lastPrice.2.1 63 = .ok (.ifCond .eq (17), 3)) (by decide) c10) ?_
              exact (ai (r_sub [1, 2, 3, 4, 5, 6, 7, 8] rfl) (P_Ledger_lastPrice_80_run (fun _ _ _ _ _ _ _ _ _ _ q1 q3 => ih q1 q3) hL h))
            · refine ai (r_if_eq_f (pc := 63) 80 (by decide +kernel : decode k_P_Ledger_lastPrice.2.1 63 = .ok (.ifCond .eq (17), 3)) (by decide) c10) ?_
              refine ai (p_aload (pc := 66) (k := 0) (by decide +kernel : decode k_P_Ledger_lastPrice.2.1 66 = .ok (.aload 8, 2)) rfl) ?_
              refine ai (r_getI (pc := 68) (by decide +kernel : decode k_P_Ledger_lastPrice.2.1 68 = .ok (.getfield 65, 3)) lg_4_65 (by decide) t5) ?_
              obtain ⟨v11, hv11, h⟩ := vb_some h
              refine ai (e_istore (pc := 71) hv11 (by decide +kernel : decode k_P_Ledger_lastPrice.2.1 71 = .ok (.istore 5, 2)) (by decide) rfl) ?_
              refine ai (p_aload (pc := 73) (k := 1) (by decide +kernel : decode k_P_Ledger_lastPrice.2.1 73 = .ok (.aload 8, 2)) rfl) ?_
              refine ai (r_getI (pc := 75) (by decide +kernel : decode k_P_Ledger_lastPrice.2.1 75 = .ok (.getfield 68, 3)) lg_4_68 (by decide) t5) ?_
              obtain ⟨v12, hv12, h⟩ := vb_some h
              refine ai (e_istore (pc := 78) hv12 (by decide +kernel : decode k_P_Ledger_lastPrice.2.1 78 = .ok (.istore 6, 2)) (by decide) rfl) ?_
              exact (ai (r_sub [3, 4, 5, 6, 7, 1, 0, 8] rfl) (P_Ledger_lastPrice_80_run (fun _ _ _ _ _ _ _ _ _ _ q1 q3 => ih q1 q3) hL h))
          · refine ai (r_icmp_ne_t (pc := 49) (tgt := 80) (by decide +kernel : decode k_P_Ledger_lastPrice.2.1 49 = .ok (.if_icmp .ne (31), 3)) (by decide) c8) ?_
            exact (ai (r_sub [1, 2, 3, 4, 5, 6, 7, 8] rfl) (P_Ledger_lastPrice_80_run (fun _ _ _ _ _ _ _ _ _ _ q1 q3 => ih q1 q3) hL h))
        · refine ai (r_icmp_ne_t (pc := 40) (tgt := 80) (by decide +kernel : decode k_P_Ledger_lastPrice.2.1 40 = .ok (.if_icmp .ne (40), 3)) (by decide) c7) ?_
          exact (ai (r_sub [1, 2, 3, 4, 5, 6, 7, 8] rfl) (P_Ledger_lastPrice_80_run (fun _ _ _ _ _ _ _ _ _ _ q1 q3 => ih q1 q3) hL h))
      · refine ai (r_icmp_ne_t (pc := 31) (tgt := 80) (by decide +kernel : decode k_P_Ledger_lastPrice.2.1 31 = .ok (.if_icmp .ne (49), 3)) (by decide) c6) ?_
        exact (ai (r_sub [1, 2, 3, 4, 5, 6, 7, 8] rfl) (P_Ledger_lastPrice_80_run (fun _ _ _ _ _ _ _ _ _ _ q1 q3 => ih q1 q3) hL h))
set_option maxRecDepth 100000 in
set_option maxHeartbeats 4000000 in
theorem P_Ledger_lastPrice_run {x1 : Int32} {x2 : Int32} {x3 : Int32} {x4 : Int32} {m m' : Mem} {r : Int32} (hL : PL m) (h : P_Ledger_lastPrice x1 x2 x3 x4 m = some (r, m')) : Run k_P_Ledger_lastPrice 0 [(0, .ref 13), (1, .int x1), (2, .int x2), (3, .int x3), (4, .int x4)] [] m (some (.int r)) m' ∧ PL m' := by
  unfold P_Ledger_lastPrice at h
  refine ai (r_iconst (pc := 0) (by decide +kernel : decode k_P_Ledger_lastPrice.2.1 0 = .ok (.iconst 0, 1)) ic_0) ?_
  refine ai (e_istore (pc := 1) rfl (by decide +kernel : decode k_P_Ledger_lastPrice.2.1 1 = .ok (.istore 5, 2)) (by decide) rfl) ?_
  refine ai (r_iconst (pc := 3) (by decide +kernel : decode k_P_Ledger_lastPrice.2.1 3 = .ok (.iconst 0, 1)) ic_0) ?_
  refine ai (e_istore (pc := 4) rfl (by decide +kernel : decode k_P_Ledger_lastPrice.2.1 4 = .ok (.istore 6, 2)) (by decide) rfl) ?_
  refine ai (r_iconst (pc := 6) (by decide +kernel : decode k_P_Ledger_lastPrice.2.1 6 = .ok (.iconst 0, 1)) ic_0) ?_
  refine ai (e_istore (pc := 7) rfl (by decide +kernel : decode k_P_Ledger_lastPrice.2.1 7 = .ok (.istore 7, 2)) (by decide) rfl) ?_
  exact (ai (r_sub [3, 4, 5, 6, 7, 2, 1, 0] rfl) (P_Ledger_lastPrice_9_run hL h))
set_option maxRecDepth 100000 in
set_option maxHeartbeats 4000000 in
theorem P_priced_run {x1 : Int32} {x2 : Int32} {x3 : Int32} {x4 : Int32} {m m' : Mem} {r : Int32} (hL : PL m) (h : P_priced x1 x2 x3 x4 m = some (r, m')) : Run k_P_priced 0 [(0, .ref 0), (1, .int x1), (2, .int x2), (3, .int x3), (4, .int x4)] [] m (some (.int r)) m' ∧ PL m' := by
  unfold P_priced at h
  refine ai (p_aload_n (pc := 0) (k := 0) (by decide +kernel : decode k_P_priced.2.1 0 = .ok (.aload_n 0, 1)) rfl rfl) ?_
  refine ai (p_getr (pc := 1) (PR_1408_0 hL) (by decide +kernel : decode k_P_priced.2.1 1 = .ok (.getfield 19, 3)) lg_11_19 (PC_0 hL).1) ?_
  refine ai (r_iload_n (pc := 4) (k := 1) (by decide +kernel : decode k_P_priced.2.1 4 = .ok (.iload_n 1, 1)) rfl rfl) ?_
  obtain ⟨r1, m2, hr1, h⟩ := bn_some h
  have q3 := P_Land_hasTown_run hL hr1
  have c4 := (PC_5 hL).1
  have hL := q3.2
  refine ai (q_callV (pc := 5) (As := [.int x1]) (st := []) (st2 := [.int r1]) (b := 5) rfl rfl (by decide +kernel : decode k_P_priced.2.1 5 = .ok (.invokevirtual 113, 3)) lc_11_113 mo_P_Land_hasTown ⟨Nat.le_of_ble_eq_true rfl, Nat.le_of_ble_eq_true rfl⟩ (Nat.le_of_ble_eq_true rfl) (Nat.le_of_ble_eq_true rfl) c4 q3.1) ?_
  rcases ite_some h with ⟨c5, h⟩ | ⟨c5, h⟩
  · refine ai (r_if_eq_t (pc := 8) (tgt := 39) (by decide +kernel : decode k_P_priced.2.1 8 = .ok (.ifCond .eq (31), 3)) (by decide) c5) ?_
    refine ai (r_iconst (pc := 39) (by decide +kernel : decode k_P_priced.2.1 39 = .ok (.iconst (-1), 1)) ic_m1) ?_
    cases h
    exact ⟨r_iret rfl (by decide +kernel : decode k_P_priced.2.1 40 = .ok (.ireturn, 1)), hL⟩
  · refine ai (r_if_eq_f (pc := 8) 39 (by decide +kernel : decode k_P_priced.2.1 8 = .ok (.ifCond .eq (31), 3)) (by decide) c5) ?_
    refine ai (r_iload_n (pc := 11) (k := 2) (by decide +kernel : decode k_P_priced.2.1 11 = .ok (.iload_n 2, 1)) rfl rfl) ?_
    obtain ⟨r6, hr6, h⟩ := bp_some h
    refine ai (q_callS (pc := 12) (As := [.int x2]) (st := []) (st2 := [.int r6]) rfl rfl (by decide +kernel : decode k_P_priced.2.1 12 = .ok (.invokestatic 142, 3)) lc_11_142 mo_P_isQuarter ⟨Nat.le_of_ble_eq_true rfl, Nat.le_of_ble_eq_true rfl⟩ (Nat.le_of_ble_eq_true rfl) (Nat.le_of_ble_eq_true rfl) (P_isQuarter_run hr6)) ?_
    rcases ite_some h with ⟨c7, h⟩ | ⟨c7, h⟩
    · refine ai (r_if_eq_t (pc := 15) (tgt := 39) (by decide +kernel : decode k_P_priced.2.1 15 = .ok (.ifCond .eq (24), 3)) (by decide) c7) ?_
      refine ai (r_iconst (pc := 39) (by decide +kernel : decode k_P_priced.2.1 39 = .ok (.iconst (-1), 1)) ic_m1) ?_
      cases h
      exact ⟨r_iret rfl (by decide +kernel : decode k_P_priced.2.1 40 = .ok (.ireturn, 1)), hL⟩
    · refine ai (r_if_eq_f (pc := 15) 39 (by decide +kernel : decode k_P_priced.2.1 15 = .ok (.ifCond .eq (24), 3)) (by decide) c7) ?_
      refine ai (r_iload_n (pc := 18) (k := 3) (by decide +kernel : decode k_P_priced.2.1 18 = .ok (.iload_n 3, 1)) rfl rfl) ?_
      refine ai (r_iconst (pc := 19) (by decide +kernel : decode k_P_priced.2.1 19 = .ok (.iconst 0, 1)) ic_0) ?_
      refine ai (r_iconst (pc := 20) (by decide +kernel : decode k_P_priced.2.1 20 = .ok (.iconst 3, 1)) ic_3) ?_
      obtain ⟨r8, hr8, h⟩ := bp_some h
      refine ai (q_callS (pc := 21) (As := [.int x3, .int 0, .int 3]) (st := []) (st2 := [.int r8]) rfl rfl (by decide +kernel : decode k_P_priced.2.1 21 = .ok (.invokestatic 117, 3)) lc_11_117 mo_P_within ⟨Nat.le_of_ble_eq_true rfl, Nat.le_of_ble_eq_true rfl⟩ (Nat.le_of_ble_eq_true rfl) (Nat.le_of_ble_eq_true rfl) (P_within_run hr8)) ?_
      rcases ite_some h with ⟨c9, h⟩ | ⟨c9, h⟩
      · refine ai (r_if_eq_t (pc := 24) (tgt := 39) (by decide +kernel : decode k_P_priced.2.1 24 = .ok (.ifCond .eq (15), 3)) (by decide) c9) ?_
        refine ai (r_iconst (pc := 39) (by decide +kernel : decode k_P_priced.2.1 39 = .ok (.iconst (-1), 1)) ic_m1) ?_
        cases h
        exact ⟨r_iret rfl (by decide +kernel : decode k_P_priced.2.1 40 = .ok (.ireturn, 1)), hL⟩
      · refine ai (r_if_eq_f (pc := 24) 39 (by decide +kernel : decode k_P_priced.2.1 24 = .ok (.ifCond .eq (15), 3)) (by decide) c9) ?_
        refine ai (p_aload_n (pc := 27) (k := 0) (by decide +kernel : decode k_P_priced.2.1 27 = .ok (.aload_n 0, 1)) rfl rfl) ?_
        refine ai (p_getr (pc := 28) (PR_1409_0 hL) (by decide +kernel : decode k_P_priced.2.1 28 = .ok (.getfield 26, 3)) lg_11_26 (PC_0 hL).1) ?_
        refine ai (r_iload (pc := 31) (k := 4) (by decide +kernel : decode k_P_priced.2.1 31 = .ok (.iload 4, 2)) rfl) ?_
        obtain ⟨r10, m11, hr10, h⟩ := bn_some h
        have q12 := P_Ledger_canKnow_run hL hr10
        have c13 := (PC_13 hL).1
        have hL := q12.2
        refine ai (q_callV (pc := 33) (As := [.int x4]) (st := []) (st2 := [.int r10]) (b := 13) rfl rfl (by decide +kernel : decode k_P_priced.2.1 33 = .ok (.invokevirtual 189, 3)) lc_11_189 mo_P_Ledger_canKnow ⟨Nat.le_of_ble_eq_true rfl, Nat.le_of_ble_eq_true rfl⟩ (Nat.le_of_ble_eq_true rfl) (Nat.le_of_ble_eq_true rfl) c13 q12.1) ?_
        rcases ite_some h with ⟨c14, h⟩ | ⟨c14, h⟩
        · refine ai (r_if_ne_f (pc := 36) 41 (by decide +kernel : decode k_P_priced.2.1 36 = .ok (.ifCond .ne (5), 3)) (by decide) c14) ?_
          refine ai (r_iconst (pc := 39) (by decide +kernel : decode k_P_priced.2.1 39 = .ok (.iconst (-1), 1)) ic_m1) ?_
          cases h
          exact ⟨r_iret rfl (by decide +kernel : decode k_P_priced.2.1 40 = .ok (.ireturn, 1)), hL⟩
        · refine ai (r_if_ne_t (pc := 36) (tgt := 41) (by decide +kernel : decode k_P_priced.2.1 36 = .ok (.ifCond .ne (5), 3)) (by decide) c14) ?_
          refine ai (p_aload_n (pc := 41) (k := 0) (by decide +kernel : decode k_P_priced.2.1 41 = .ok (.aload_n 0, 1)) rfl rfl) ?_
          refine ai (p_getr (pc := 42) (PR_1409_0 hL) (by decide +kernel : decode k_P_priced.2.1 42 = .ok (.getfield 26, 3)) lg_11_26 (PC_0 hL).1) ?_
          refine ai (r_iload_n (pc := 45) (k := 1) (by decide +kernel : decode k_P_priced.2.1 45 = .ok (.iload_n 1, 1)) rfl rfl) ?_
          refine ai (r_iload_n (pc := 46) (k := 2) (by decide +kernel : decode k_P_priced.2.1 46 = .ok (.iload_n 2, 1)) rfl rfl) ?_
          refine ai (r_iload_n (pc := 47) (k := 3) (by decide +kernel : decode k_P_priced.2.1 47 = .ok (.iload_n 3, 1)) rfl rfl) ?_
          refine ai (r_iload (pc := 48) (k := 4) (by decide +kernel : decode k_P_priced.2.1 48 = .ok (.iload 4, 2)) rfl) ?_
          obtain ⟨r15, m16, hr15, h⟩ := bn_some h
          have q17 := P_Ledger_lastPrice_run hL hr15
          have c18 := (PC_13 hL).1
          have hL := q17.2
          refine ai (q_callV (pc := 50) (As := [.int x1, .int x2, .int x3, .int x4]) (st := []) (st2 := [.int r15]) (b := 13) rfl rfl (by decide +kernel : decode k_P_priced.2.1 50 = .ok (.invokevirtual 192, 3)) lc_11_192 mo_P_Ledger_lastPrice ⟨Nat.le_of_ble_eq_true rfl, Nat.le_of_ble_eq_true rfl⟩ (Nat.le_of_ble_eq_true rfl) (Nat.le_of_ble_eq_true rfl) c18 q17.1) ?_
          cases h
          exact ⟨r_iret rfl (by decide +kernel : decode k_P_priced.2.1 53 = .ok (.ireturn, 1)), hL⟩
set_option maxRecDepth 100000 in
set_option maxHeartbeats 4000000 in
theorem P_Ledger_basket_6_run {n : Nat} {x1 : Int32} {x2 : Int32} {x3 : Int32} {x4 : Option Nat} {x5 : Int32} {x6 : Int32} {m m' : Mem} {r : Int32} (hL : PL m) (h : P_Ledger_basket_6 n x1 x2 x3 x4 x5 x6 m = some (r, m')) : Run k_P_Ledger_basket 6 [(0, .ref 13), (1, .int x1), (2, .int x2), (3, .int x3), (4, va_rf x4), (5, .int x5), (6, .int x6)] [] m (some (.int r)) m' ∧ PL m' := by
  induction n generalizing x1 x2 x3 x4 x5 x6 m r m' with
  | zero => exact absurd h (by simp [P_Ledger_basket_6])
  | succ n ih =>
    rw [P_Ledger_basket_6.eq_2] at h
    refine ai (r_iload (pc := 6) (k := 6) (by decide +kernel : decode k_P_Ledger_basket.2.1 6 = .ok (.iload 6, 2)) rfl) ?_
    obtain ⟨a1, rfl, hha1⟩ := gs_some h
    have h := hha1
    refine ai (p_aload (pc := 8) (k := 4) (by decide +kernel : decode k_P_Ledger_basket.2.1 8 = .ok (.aload 4, 2)) rfl) ?_
    obtain ⟨t2, h⟩ := gt_some h
    refine ai (p_alen (pc := 10) (by decide +kernel : decode k_P_Ledger_basket.2.1 10 = .ok (.arraylength, 1)) (by rw [t2]; decide) rfl rfl) ?_
    rcases ite_some h with ⟨c3, h⟩ | ⟨c3, h⟩
    · refine ai (r_icmp_ge_t (pc := 11) (tgt := 40) (by decide +kernel : decode k_P_Ledger_basket.2.1 11 = .ok (.if_icmp .ge (29), 3)) (by decide) c3) ?_
      refine ai (r_iload (pc := 40) (k := 5) (by decide +kernel : decode k_P_Ledger_basket.2.1 40 = .ok (.iload 5, 2)) rfl) ?_
      cases h
      exact ⟨r_iret rfl (by decide +kernel : decode k_P_Ledger_basket.2.1 42 = .ok (.ireturn, 1)), hL⟩
    · refine ai (r_icmp_ge_f (pc := 11) 40 (by decide +kernel : decode k_P_Ledger_basket.2.1 11 = .ok (.if_icmp .ge (29), 3)) (by decide) c3) ?_
      refine ai (r_iload (pc := 14) (k := 5) (by decide +kernel : decode k_P_Ledger_basket.2.1 14 = .ok (.iload 5, 2)) rfl) ?_
      refine ai (p_aload (pc := 16) (k := 4) (by decide +kernel : decode k_P_Ledger_basket.2.1 16 = .ok (.aload 4, 2)) rfl) ?_
      refine ai (r_iload (pc := 18) (k := 6) (by decide +kernel : decode k_P_Ledger_basket.2.1 18 = .ok (.iload 6, 2)) rfl) ?_
      obtain ⟨g4, h⟩ := gd_some h
      refine ai (p_iald (pc := 20) (by decide +kernel : decode k_P_Ledger_basket.2.1 20 = .ok (.iaload, 1)) t2 rfl g4) ?_
      refine ai (p_aload_n (pc := 21) (k := 0) (by decide +kernel : decode k_P_Ledger_basket.2.1 21 = .ok (.aload_n 0, 1)) rfl rfl) ?_
      refine ai (r_iload_n (pc := 22) (k := 1) (by decide +kernel : decode k_P_Ledger_basket.2.1 22 = .ok (.iload_n 1, 1)) rfl rfl) ?_
      refine ai (r_iload_n (pc := 23) (k := 2) (by decide +kernel : decode k_P_Ledger_basket.2.1 23 = .ok (.iload_n 2, 1)) rfl rfl) ?_
      refine ai (r_iload (pc := 24) (k := 6) (by decide +kernel : decode k_P_Ledger_basket.2.1 24 = .ok (.iload 6, 2)) rfl) ?_
      refine ai (r_iload_n (pc := 26) (k := 3) (by decide +kernel : decode k_P_Ledger_basket.2.1 26 = .ok (.iload_n 3, 1)) rfl rfl) ?_
      obtain ⟨r5, m6, hr5, h⟩ := bn_some h
      have q7 := P_Ledger_lastPrice_run hL hr5
      have c8 := (PC_13 hL).1
      have hL := q7.2
      refine ai (q_callV (pc := 27) (As := [.int x1, .int x2, .int x6, .int x3]) (st := [.int (aI m a1 (ix x6)), .int x5]) (st2 := [.int r5, .int (aI m a1 (ix x6)), .int x5]) (b := 13) rfl rfl (by decide +kernel : decode k_P_Ledger_basket.2.1 27 = .ok (.invokevirtual 71, 3)) lc_4_71 mo_P_Ledger_lastPrice ⟨Nat.le_of_ble_eq_true rfl, Nat.le_of_ble_eq_true rfl⟩ (Nat.le_of_ble_eq_true rfl) (Nat.le_of_ble_eq_true rfl) c8 q7.1) ?_
      refine ai (r_imul (pc := 30) (by decide +kernel : decode k_P_Ledger_basket.2.1 30 = .ok (.imul, 1))) ?_
      refine ai (r_iadd (pc := 31) (by decide +kernel : decode k_P_Ledger_basket.2.1 31 = .ok (.iadd, 1))) ?_
      obtain ⟨v9, hv9, h⟩ := vb_some h
      refine ai (e_istore (pc := 32) hv9 (by decide +kernel : decode k_P_Ledger_basket.2.1 32 = .ok (.istore 5, 2)) (by decide) rfl) ?_
      obtain ⟨v10, hv10, h⟩ := vb_some h
      refine ai (e_iinc (pc := 34) (k := 6) hv10 ic_1 (by decide +kernel : decode k_P_Ledger_basket.2.1 34 = .ok (.iinc 6 (1), 3)) rfl (by decide) rfl) ?_
      refine ai (r_goto (pc := 37) (tgt := 6) (by decide +kernel : decode k_P_Ledger_basket.2.1 37 = .ok (.goto (-31), 3)) (by decide)) ?_
      exact (ai (r_sub [2, 3, 4, 5, 6, 1, 0] rfl) (ih hL h))
set_option maxRecDepth 100000 in
set_option maxHeartbeats 4000000 in
theorem P_Ledger_basket_run {x1 : Int32} {x2 : Int32} {x3 : Int32} {x4 : Option Nat} {m m' : Mem} {r : Int32} (hL : PL m) (h : P_Ledger_basket x1 x2 x3 x4 m = some (r, m')) : Run k_P_Ledger_basket 0 [(0, .ref 13), (1, .int x1), (2, .int x2), (3, .int x3), (4, va_rf x4)] [] m (some (.int r)) m' ∧ PL m' := by
  unfold P_Ledger_basket at h
  refine ai (r_iconst (pc := 0) (by decide +kernel : decode k_P_Ledger_basket.2.1 0 = .ok (.iconst 0, 1)) ic_0) ?_
  refine ai (e_istore (pc := 1) rfl (by decide +kernel : decode k_P_Ledger_basket.2.1 1 = .ok (.istore 5, 2)) (by decide) (by simp [f1, vrc, vrs, cti, ctr, ctl, ctn, cta]) (ls2 := [(5, .int 0), (0, .ref 13), (1, .int x1), (2, .int x2), (3, .int x3), (4, va_rf x4)]) (i := 5)) ?_
  refine ai (r_iconst (pc := 3) (by decide +kernel : decode k_P_Ledger_basket.2.1 3 = .ok (.iconst 0, 1)) ic_0) ?_
  refine ai (e_istore (pc := 4) rfl (by decide +kernel : decode k_P_Ledger_basket.2.1 4 = .ok (.istore 6, 2)) (by decide) rfl) ?_
  exact (ai (r_sub [2, 3, 4, 5, 6, 1, 0] rfl) (P_Ledger_basket_6_run hL h))
set_option maxRecDepth 100000 in
set_option maxHeartbeats 4000000 in
theorem P_least_run {x1 : Int32} {x2 : Int32} {x3 : Int32} {m m' : Mem} {r : Int32} (hL : PL m) (h : P_least x1 x2 x3 m = some (r, m')) : Run k_P_least 0 [(0, .ref 0), (1, .int x1), (2, .int x2), (3, .int x3)] [] m (some (.int r)) m' ∧ PL m' := by
  unfold P_least at h
  refine ai (p_aload_n (pc := 0) (k := 0) (by decide +kernel : decode k_P_least.2.1 0 = .ok (.aload_n 0, 1)) rfl rfl) ?_
  refine ai (p_getr (pc := 1) (PR_1408_0 hL) (by decide +kernel : decode k_P_least.2.1 1 = .ok (.getfield 19, 3)) lg_11_19 (PC_0 hL).1) ?_
  refine ai (r_iload_n (pc := 4) (k := 1) (by decide +kernel : decode k_P_least.2.1 4 = .ok (.iload_n 1, 1)) rfl rfl) ?_
  obtain ⟨r1, m2, hr1, h⟩ := bn_some h
  have q3 := P_Land_hasTown_run hL hr1
  have c4 := (PC_5 hL).1
  have hL := q3.2
  refine ai (q_callV (pc := 5) (As := [.int x1]) (st := []) (st2 := [.int r1]) (b := 5) rfl rfl (by decide +kernel : decode k_P_least.2.1 5 = .ok (.invokevirtual 113, 3)) lc_11_113 mo_P_Land_hasTown ⟨Nat.le_of_ble_eq_true rfl, Nat.le_of_ble_eq_true rfl⟩ (Nat.le_of_ble_eq_true rfl) (Nat.le_of_ble_eq_true rfl) c4 q3.1) ?_
  rcases ite_some h with ⟨c5, h⟩ | ⟨c5, h⟩
  · refine ai (r_if_eq_t (pc := 8) (tgt := 29) (by decide +kernel : decode k_P_least.2.1 8 = .ok (.ifCond .eq (21), 3)) (by decide) c5) ?_
    refine ai (r_iconst (pc := 29) (by decide +kernel : decode k_P_least.2.1 29 = .ok (.iconst (-1), 1)) ic_m1) ?_
    cases h
    exact ⟨r_iret rfl (by decide +kernel : decode k_P_least.2.1 30 = .ok (.ireturn, 1)), hL⟩
  · refine ai (r_if_eq_f (pc := 8) 29 (by decide +kernel : decode k_P_least.2.1 8 = .ok (.ifCond .eq (21), 3)) (by decide) c5) ?_
    refine ai (r_iload_n (pc := 11) (k := 2) (by decide +kernel : decode k_P_least.2.1 11 = .ok (.iload_n 2, 1)) rfl rfl) ?_
    obtain ⟨r6, hr6, h⟩ := bp_some h
    refine ai (q_callS (pc := 12) (As := [.int x2]) (st := []) (st2 := [.int r6]) rfl rfl (by decide +kernel : decode k_P_least.2.1 12 = .ok (.invokestatic 142, 3)) lc_11_142 mo_P_isQuarter ⟨Nat.le_of_ble_eq_true rfl, Nat.le_of_ble_eq_true rfl⟩ (Nat.le_of_ble_eq_true rfl) (Nat.le_of_ble_eq_true rfl) (P_isQuarter_run hr6)) ?_
    rcases ite_some h with ⟨c7, h⟩ | ⟨c7, h⟩
    · refine ai (r_if_eq_t (pc := 15) (tgt := 29) (by decide +kernel : decode k_P_least.2.1 15 = .ok (.ifCond .eq (14), 3)) (by decide) c7) ?_
      refine ai (r_iconst (pc := 29) (by decide +kernel : decode k_P_least.2.1 29 = .ok (.iconst (-1), 1)) ic_m1) ?_
      cases h
      exact ⟨r_iret rfl (by decide +kernel : decode k_P_least.2.1 30 = .ok (.ireturn, 1)), hL⟩
    · refine ai (r_if_eq_f (pc := 15) 29 (by decide +kernel : decode k_P_least.2.1 15 = .ok (.ifCond .eq (14), 3)) (by decide) c7) ?_
      refine ai (p_aload_n (pc := 18) (k := 0) (by decide +kernel : decode k_P_least.2.1 18 = .ok (.aload_n 0, 1)) rfl rfl) ?_
      refine ai (p_getr (pc := 19) (PR_1409_0 hL) (by decide +kernel : decode k_P_least.2.1 19 = .ok (.getfield 26, 3)) lg_11_26 (PC_0 hL).1) ?_
      refine ai (r_iload_n (pc := 22) (k := 3) (by decide +kernel : decode k_P_least.2.1 22 = .ok (.iload_n 3, 1)) rfl rfl) ?_
      obtain ⟨r8, m9, hr8, h⟩ := bn_some h
      have q10 := P_Ledger_canKnow_run hL hr8
      have c11 := (PC_13 hL).1
      have hL := q10.2
      refine ai (q_callV (pc := 23) (As := [.int x3]) (st := []) (st2 := [.int r8]) (b := 13) rfl rfl (by decide +kernel : decode k_P_least.2.1 23 = .ok (.invokevirtual 189, 3)) lc_11_189 mo_P_Ledger_canKnow ⟨Nat.le_of_ble_eq_true rfl, Nat.le_of_ble_eq_true rfl⟩ (Nat.le_of_ble_eq_true rfl) (Nat.le_of_ble_eq_true rfl) c11 q10.1) ?_
      rcases ite_some h with ⟨c12, h⟩ | ⟨c12, h⟩
      · refine ai (r_if_ne_f (pc := 26) 31 (by decide +kernel : decode k_P_least.2.1 26 = .ok (.ifCond .ne (5), 3)) (by decide) c12) ?_
        refine ai (r_iconst (pc := 29) (by decide +kernel : decode k_P_least.2.1 29 = .ok (.iconst (-1), 1)) ic_m1) ?_
        cases h
        exact ⟨r_iret rfl (by decide +kernel : decode k_P_least.2.1 30 = .ok (.ireturn, 1)), hL⟩
      · refine ai (r_if_ne_t (pc := 26) (tgt := 31) (by decide +kernel : decode k_P_least.2.1 26 = .ok (.ifCond .ne (5), 3)) (by decide) c12) ?_
        refine ai (p_aload_n (pc := 31) (k := 0) (by decide +kernel : decode k_P_least.2.1 31 = .ok (.aload_n 0, 1)) rfl rfl) ?_
        refine ai (p_getr (pc := 32) (PR_1409_0 hL) (by decide +kernel : decode k_P_least.2.1 32 = .ok (.getfield 26, 3)) lg_11_26 (PC_0 hL).1) ?_
        refine ai (r_iload_n (pc := 35) (k := 1) (by decide +kernel : decode k_P_least.2.1 35 = .ok (.iload_n 1, 1)) rfl rfl) ?_
        refine ai (r_iload_n (pc := 36) (k := 2) (by decide +kernel : decode k_P_least.2.1 36 = .ok (.iload_n 2, 1)) rfl rfl) ?_
        refine ai (r_iload_n (pc := 37) (k := 3) (by decide +kernel : decode k_P_least.2.1 37 = .ok (.iload_n 3, 1)) rfl rfl) ?_
        refine ai (p_aload_n (pc := 38) (k := 0) (by decide +kernel : decode k_P_least.2.1 38 = .ok (.aload_n 0, 1)) rfl rfl) ?_
        refine ai (p_getr (pc := 39) (PR_1408_0 hL) (by decide +kernel : decode k_P_least.2.1 39 = .ok (.getfield 19, 3)) lg_11_19 (PC_0 hL).1) ?_
        refine ai (p_getr (pc := 42) (PR_393_5 hL) (by decide +kernel : decode k_P_least.2.1 42 = .ok (.getfield 139, 3)) lg_11_139 (PC_5 hL).1) ?_
        obtain ⟨r13, m14, hr13, h⟩ := bn_some h
        have q15 := P_Ledger_basket_run hL hr13
        have c16 := (PC_13 hL).1
        have hL := q15.2
        refine ai (q_callV (pc := 45) (As := [.int x1, .int x2, .int x3, .ref 12]) (st := []) (st2 := [.int r13]) (b := 13) rfl rfl (by decide +kernel : decode k_P_least.2.1 45 = .ok (.invokevirtual 195, 3)) lc_11_195 mo_P_Ledger_basket ⟨Nat.le_of_ble_eq_true rfl, Nat.le_of_ble_eq_true rfl⟩ (Nat.le_of_ble_eq_true rfl) (Nat.le_of_ble_eq_true rfl) c16 q15.1) ?_
        cases h
        exact ⟨r_iret rfl (by decide +kernel : decode k_P_least.2.1 48 = .ok (.ireturn, 1)), hL⟩
set_option maxRecDepth 100000 in
set_option maxHeartbeats 4000000 in
theorem P_kind_run {x1 : Int32} {m m' : Mem} {r : Int32} (hL : PL m) (h : P_kind x1 m = some (r, m')) : Run k_P_kind 0 [(0, .ref 0), (1, .int x1)] [] m (some (.int r)) m' ∧ PL m' := by
  unfold P_kind at h
  refine ai (p_aload_n (pc := 0) (k := 0) (by decide +kernel : decode k_P_kind.2.1 0 = .ok (.aload_n 0, 1)) rfl rfl) ?_
  refine ai (p_getr (pc := 1) (PR_1409_0 hL) (by decide +kernel : decode k_P_kind.2.1 1 = .ok (.getfield 26, 3)) lg_11_26 (PC_0 hL).1) ?_
  refine ai (r_iload_n (pc := 4) (k := 1) (by decide +kernel : decode k_P_kind.2.1 4 = .ok (.iload_n 1, 1)) rfl rfl) ?_
  obtain ⟨r1, m2, hr1, h⟩ := bn_some h
  have q3 := P_Ledger_factAt_run hL hr1
  have c4 := (PC_13 hL).1
  have hL := q3.2
  refine ai (q_callV (pc := 5) (As := [.int x1]) (st := []) (st2 := [va_rf r1]) (b := 13) rfl rfl (by decide +kernel : decode k_P_kind.2.1 5 = .ok (.invokevirtual 158, 3)) lc_11_158 mo_P_Ledger_factAt ⟨Nat.le_of_ble_eq_true rfl, Nat.le_of_ble_eq_true rfl⟩ (Nat.le_of_ble_eq_true rfl) (Nat.le_of_ble_eq_true rfl) c4 q3.1) ?_
  refine ai (r_astore_n (pc := 8) (by decide +kernel : decode k_P_kind.2.1 8 = .ok (.astore_n 2, 1)) rfl (by decide) rfl) ?_
  refine ai (r_aload_n (pc := 9) (k := 0) (by decide +kernel : decode k_P_kind.2.1 9 = .ok (.aload_n 2, 1)) rfl rfl) ?_
  rcases ite_some h with ⟨c5, h⟩ | ⟨c5, h⟩
  · refine ai (d_ifnonnull_f (pc := 10) c5 (by decide +kernel : decode k_P_kind.2.1 10 = .ok (.ifnonnull (7), 3))) ?_
    refine ai (r_iconst (pc := 13) (by decide +kernel : decode k_P_kind.2.1 13 = .ok (.iconst (-1), 1)) ic_m1) ?_
    refine ai (r_goto (pc := 14) (tgt := 21) (by decide +kernel : decode k_P_kind.2.1 14 = .ok (.goto (7), 3)) (by decide)) ?_
    cases h
    exact ⟨r_iret rfl (by decide +kernel : decode k_P_kind.2.1 21 = .ok (.ireturn, 1)), hL⟩
  · refine ai (d_ifnonnull_t (pc := 10) (tgt := 17) c5 (by decide +kernel : decode k_P_kind.2.1 10 = .ok (.ifnonnull (7), 3)) (by decide)) ?_
    obtain ⟨a6, rfl, hha6⟩ := gs_some h
    have h := hha6
    refine ai (p_aload_n (pc := 17) (k := 0) (by decide +kernel : decode k_P_kind.2.1 17 = .ok (.aload_n 2, 1)) rfl rfl) ?_
    obtain ⟨t7, h⟩ := gt_some h
    refine ai (r_getI (pc := 18) (by decide +kernel : decode k_P_kind.2.1 18 = .ok (.getfield 162, 3)) lg_11_162 (by decide) t7) ?_
    cases h
    exact ⟨r_iret rfl (by decide +kernel : decode k_P_kind.2.1 21 = .ok (.ireturn, 1)), hL⟩
set_option maxRecDepth 100000 in
set_option maxHeartbeats 4000000 in
theorem P_Text_awardFact_run {a0 : Nat} {m m' : Mem} {r : Int32} (hL : PL m) (ht : mT m a0 = 11) (h : P_Text_awardFact a0 m = some (r, m')) : Run k_P_Text_awardFact 0 [(0, .ref a0)] [] m (some (.int r)) m' ∧ PL m' := by
  unfold P_Text_awardFact at h
  refine ai (p_aload_n (pc := 0) (k := 0) (by decide +kernel : decode k_P_Text_awardFact.2.1 0 = .ok (.aload_n 0, 1)) rfl rfl) ?_
  refine ai (p_getR (pc := 1) (by decide +kernel : decode k_P_Text_awardFact.2.1 1 = .ok (.getfield 33, 3)) lg_10_33 ht) ?_
  rcases ite_some h with ⟨c1, h⟩ | ⟨c1, h⟩
  · refine ai (d_ifnonnull_f (pc := 4) c1 (by decide +kernel : decode k_P_Text_awardFact.2.1 4 = .ok (.ifnonnull (10), 3))) ?_
    refine ai (p_aload_n (pc := 7) (k := 0) (by decide +kernel : decode k_P_Text_awardFact.2.1 7 = .ok (.aload_n 0, 1)) rfl rfl) ?_
    refine ai (r_getI (pc := 8) (by decide +kernel : decode k_P_Text_awardFact.2.1 8 = .ok (.getfield 21, 3)) lg_10_21 (by decide) ht) ?_
    refine ai (r_goto (pc := 11) (tgt := 21) (by decide +kernel : decode k_P_Text_awardFact.2.1 11 = .ok (.goto (10), 3)) (by decide)) ?_
    cases h
    exact ⟨r_iret rfl (by decide +kernel : decode k_P_Text_awardFact.2.1 21 = .ok (.ireturn, 1)), hL⟩
  · refine ai (d_ifnonnull_t (pc := 4) (tgt := 14) c1 (by decide +kernel : decode k_P_Text_awardFact.2.1 4 = .ok (.ifnonnull (10), 3)) (by decide)) ?_
    refine ai (p_aload_n (pc := 14) (k := 0) (by decide +kernel : decode k_P_Text_awardFact.2.1 14 = .ok (.aload_n 0, 1)) rfl rfl) ?_
    obtain ⟨a2, o3, h⟩ := gs_some h
    refine ai (p_getr (pc := 15) o3 (by decide +kernel : decode k_P_Text_awardFact.2.1 15 = .ok (.getfield 33, 3)) lg_10_33 ht) ?_
    obtain ⟨t4, h⟩ := gt_some h
    refine ai (r_getI (pc := 18) (by decide +kernel : decode k_P_Text_awardFact.2.1 18 = .ok (.getfield 21, 3)) lg_10_21 (by decide) t4) ?_
    cases h
    exact ⟨r_iret rfl (by decide +kernel : decode k_P_Text_awardFact.2.1 21 = .ok (.ireturn, 1)), hL⟩
set_option maxRecDepth 100000 in
set_option maxHeartbeats 4000000 in
theorem P_award_run {x1 : Int32} {m m' : Mem} {r : Int32} (hL : PL m) (h : P_award x1 m = some (r, m')) : Run k_P_award 0 [(0, .ref 0), (1, .int x1)] [] m (some (.int r)) m' ∧ PL m' := by
  unfold P_award at h
  refine ai (p_aload_n (pc := 0) (k := 0) (by decide +kernel : decode k_P_award.2.1 0 = .ok (.aload_n 0, 1)) rfl rfl) ?_
  refine ai (p_getr (pc := 1) (PR_1409_0 hL) (by decide +kernel : decode k_P_award.2.1 1 = .ok (.getfield 26, 3)) lg_11_26 (PC_0 hL).1) ?_
  refine ai (r_iload_n (pc := 4) (k := 1) (by decide +kernel : decode k_P_award.2.1 4 = .ok (.iload_n 1, 1)) rfl rfl) ?_
  refine ai (p_aload_n (pc := 5) (k := 0) (by decide +kernel : decode k_P_award.2.1 5 = .ok (.aload_n 0, 1)) rfl rfl) ?_
  refine ai (p_getr (pc := 6) (PR_1409_0 hL) (by decide +kernel : decode k_P_award.2.1 6 = .ok (.getfield 26, 3)) lg_11_26 (PC_0 hL).1) ?_
  refine ai (r_getI (pc := 9) (by decide +kernel : decode k_P_award.2.1 9 = .ok (.getfield 78, 3)) lg_11_78 (by decide) (PC_13 hL).1) ?_
  obtain ⟨r1, m2, hr1, h⟩ := bn_some h
  have q3 := P_Ledger_textAt_run hL hr1
  have c4 := (PC_13 hL).1
  have hL := q3.2
  refine ai (q_callV (pc := 12) (As := [.int x1, .int (mI m 514 13)]) (st := []) (st2 := [va_rf r1]) (b := 13) rfl rfl (by decide +kernel : decode k_P_award.2.1 12 = .ok (.invokevirtual 174, 3)) lc_11_174 mo_P_Ledger_textAt ⟨Nat.le_of_ble_eq_true rfl, Nat.le_of_ble_eq_true rfl⟩ (Nat.le_of_ble_eq_true rfl) (Nat.le_of_ble_eq_true rfl) c4 q3.1) ?_
  refine ai (r_astore_n (pc := 15) (by decide +kernel : decode k_P_award.2.1 15 = .ok (.astore_n 2, 1)) rfl (by decide) rfl) ?_
  refine ai (r_aload_n (pc := 16) (k := 0) (by decide +kernel : decode k_P_award.2.1 16 = .ok (.aload_n 2, 1)) rfl rfl) ?_
  rcases ite_some h with ⟨c5, h⟩ | ⟨c5, h⟩
  · refine ai (d_ifnonnull_f (pc := 17) c5 (by decide +kernel : decode k_P_award.2.1 17 = .ok (.ifnonnull (7), 3))) ?_
    refine ai (r_iconst (pc := 20) (by decide +kernel : decode k_P_award.2.1 20 = .ok (.iconst (-1), 1)) ic_m1) ?_
    refine ai (r_goto (pc := 21) (tgt := 28) (by decide +kernel : decode k_P_award.2.1 21 = .ok (.goto (7), 3)) (by decide)) ?_
    cases h
    exact ⟨r_iret rfl (by decide +kernel : decode k_P_award.2.1 28 = .ok (.ireturn, 1)), hL⟩
  · refine ai (d_ifnonnull_t (pc := 17) (tgt := 24) c5 (by decide +kernel : decode k_P_award.2.1 17 = .ok (.ifnonnull (7), 3)) (by decide)) ?_
    obtain ⟨a6, rfl, hha6⟩ := gs_some h
    have h := hha6
    refine ai (p_aload_n (pc := 24) (k := 0) (by decide +kernel : decode k_P_award.2.1 24 = .ok (.aload_n 2, 1)) rfl rfl) ?_
    obtain ⟨t7, h⟩ := gt_some h
    obtain ⟨r8, m9, hr8, h⟩ := bn_some h
    have q10 := P_Text_awardFact_run hL t7 hr8
    have hL := q10.2
    refine ai (q_callV (pc := 25) (As := []) (st := []) (st2 := [.int r8]) (b := a6) rfl rfl (by decide +kernel : decode k_P_award.2.1 25 = .ok (.invokevirtual 199, 3)) lc_11_199 mo_P_Text_awardFact ⟨Nat.le_of_ble_eq_true rfl, Nat.le_of_ble_eq_true rfl⟩ (Nat.le_of_ble_eq_true rfl) (Nat.le_of_ble_eq_true rfl) t7 q10.1) ?_
    cases h
    exact ⟨r_iret rfl (by decide +kernel : decode k_P_award.2.1 28 = .ok (.ireturn, 1)), hL⟩
set_option maxRecDepth 100000 in
set_option maxHeartbeats 4000000 in
theorem P_Ledger_setInForce_64_run {k3 : Int32 → Int32 → Int32 → Int32 → Mem → Option (Unit × Mem)} {x1 : Int32} {x2 : Int32} {x3 : Int32} {x4 : Int32} {s0 : Int32} {s1 : Option Nat} {m m' : Mem} {r : Unit} (hk3 : ∀ (x1 : Int32) (x2 : Int32) (x3 : Int32) (x4 : Int32) (m : Mem) (r : Unit) (m' : Mem), PL m → k3 x1 x2 x3 x4 m = some (r, m') → Run k_P_Ledger_setInForce 3 [(0, .ref 13), (1, .int x1), (2, .int x2), (3, .int x3), (4, .int x4)] [] m none m' ∧ PL m') (hL : PL m) (h : P_Ledger_setInForce_64 k3 x1 x2 x3 x4 s0 s1 m = some (r, m')) : Run k_P_Ledger_setInForce 64 [(0, .ref 13), (1, .int x1), (2, .int x2), (3, .int x3), (4, .int x4)] [.int s0, va_rf s1] m none m' ∧ PL m' := by
  unfold P_Ledger_setInForce_64 at h
  obtain ⟨a1, rfl, hha1⟩ := gs_some h
  have h := hha1
  obtain ⟨t2, h⟩ := gt_some h
  obtain ⟨z3, h⟩ := gz_some h
  obtain ⟨m4, hm4, h⟩ := vb_some h
  have hL : PL m4 := by rw [hm4]; exact hL
  have t5 : mT m4 a1 = 11 := by rw [hm4]; exact t2
  refine ai (p_putZ (pc := 64) hm4 z3 (by decide +kernel : decode k_P_Ledger_setInForce.2.1 64 = .ok (.putfield 81, 3)) lp_4_81 t2) ?_
  obtain ⟨v6, hv6, h⟩ := vb_some h
  refine ai (e_iinc (pc := 67) (k := 4) hv6 ic_1 (by decide +kernel : decode k_P_Ledger_setInForce.2.1 67 = .ok (.iinc 4 (1), 3)) rfl (by decide) rfl) ?_
  refine ai (r_goto (pc := 70) (tgt := 3) (by decide +kernel : decode k_P_Ledger_setInForce.2.1 70 = .ok (.goto (-67), 3)) (by decide)) ?_
  exact (ai (r_sub [1, 2, 3, 4, 0] rfl) (hk3 x1 x2 x3 v6 m4 _ _ hL h))
set_option maxRecDepth 100000 in
set_option maxHeartbeats 4000000 in
theorem P_Ledger_setInForce_59_run {k3 : Int32 → Int32 → Int32 → Int32 → Mem → Option (Unit × Mem)} {x1 : Int32} {x2 : Int32} {x3 : Int32} {x4 : Int32} {s0 : Option Nat} {m m' : Mem} {r : Unit} (hk3 : ∀ (x1 : Int32) (x2 : Int32) (x3 : Int32) (x4 : Int32) (m : Mem) (r : Unit) (m' : Mem), PL m → k3 x1 x2 x3 x4 m = some (r, m') → Run k_P_Ledger_setInForce 3 [(0, .ref 13), (1, .int x1), (2, .int x2), (3, .int x3), (4, .int x4)] [] m none m' ∧ PL m') (hL : PL m) (h : P_Ledger_setInForce_59 k3 x1 x2 x3 x4 s0 m = some (r, m')) : Run k_P_Ledger_setInForce 59 [(0, .ref 13), (1, .int x1), (2, .int x2), (3, .int x3), (4, .int x4)] [va_rf s0] m none m' ∧ PL m' := by
  unfold P_Ledger_setInForce_59 at h
  refine ai (r_iconst (pc := 59) (by decide +kernel : decode k_P_Ledger_setInForce.2.1 59 = .ok (.iconst 1, 1)) ic_1) ?_
  refine ai (r_goto (pc := 60) (tgt := 64) (by decide +kernel : decode k_P_Ledger_setInForce.2.1 60 = .ok (.goto (4), 3)) (by decide)) ?_
  exact (P_Ledger_setInForce_64_run hk3 hL h)
set_option maxRecDepth 100000 in
set_option maxHeartbeats 4000000 in
theorem P_Ledger_setInForce_63_run {k3 : Int32 → Int32 → Int32 → Int32 → Mem → Option (Unit × Mem)} {x1 : Int32} {x2 : Int32} {x3 : Int32} {x4 : Int32} {s0 : Option Nat} {m m' : Mem} {r : Unit} (hk3 : ∀ (x1 : Int32) (x2 : Int32) (x3 : Int32) (x4 : Int32) (m : Mem) (r : Unit) (m' : Mem), PL m → k3 x1 x2 x3 x4 m = some (r, m') → Run k_P_Ledger_setInForce 3 [(0, .ref 13), (1, .int x1), (2, .int x2), (3, .int x3), (4, .int x4)] [] m none m' ∧ PL m') (hL : PL m) (h : P_Ledger_setInForce_63 k3 x1 x2 x3 x4 s0 m = some (r, m')) : Run k_P_Ledger_setInForce 63 [(0, .ref 13), (1, .int x1), (2, .int x2), (3, .int x3), (4, .int x4)] [va_rf s0] m none m' ∧ PL m' := by
  unfold P_Ledger_setInForce_63 at h
  refine ai (r_iconst (pc := 63) (by decide +kernel : decode k_P_Ledger_setInForce.2.1 63 = .ok (.iconst 0, 1)) ic_0) ?_
  exact (P_Ledger_setInForce_64_run hk3 hL h)
set_option maxRecDepth 100000 in
set_option maxHeartbeats 4000000 in
theorem P_Ledger_setInForce_154_run {k76 : Int32 → Int32 → Int32 → Mem → Option (Unit × Mem)} {x2 : Int32} {x3 : Int32} {x4 : Int32} {m m' : Mem} {r : Unit} (hk76 : ∀ (x2 : Int32) (x3 : Int32) (x4 : Int32) (m : Mem) (r : Unit) (m' : Mem), PL m → k76 x2 x3 x4 m = some (r, m') → Run k_P_Ledger_setInForce 76 [(0, .ref 13), (2, .int x2), (3, .int x3), (4, .int x4)] [] m none m' ∧ PL m') (hL : PL m) (h : P_Ledger_setInForce_154 k76 x2 x3 x4 m = some (r, m')) : Run k_P_Ledger_setInForce 154 [(0, .ref 13), (2, .int x2), (3, .int x3), (4, .int x4)] [] m none m' ∧ PL m' := by
  unfold P_Ledger_setInForce_154 at h
  obtain ⟨v1, hv1, h⟩ := vb_some h
  refine ai (e_iinc (pc := 154) (k := 3) hv1 ic_1 (by decide +kernel : decode k_P_Ledger_setInForce.2.1 154 = .ok (.iinc 4 (1), 3)) rfl (by decide) rfl) ?_
  refine ai (r_goto (pc := 157) (tgt := 76) (by decide +kernel : decode k_P_Ledger_setInForce.2.1 157 = .ok (.goto (-81), 3)) (by decide)) ?_
  exact (ai (r_sub [1, 2, 3, 0] rfl) (hk76 x2 x3 v1 m _ _ hL h))
set_option maxRecDepth 100000 in
set_option maxHeartbeats 4000000 in
theorem P_Ledger_setInForce_76_run {n : Nat} {x2 : Int32} {x3 : Int32} {x4 : Int32} {m m' : Mem} {r : Unit} (hL : PL m) (h : P_Ledger_setInForce_76 n x2 x3 x4 m = some (r, m')) : Run k_P_Ledger_setInForce 76 [(0, .ref 13), (2, .int x2), (3, .int x3), (4, .int x4)] [] m none m' ∧ PL m' := by
  induction n generalizing x2 x3 x4 m r m' with
  | zero => exact absurd h (by simp [P_Ledger_setInForce_76])
  | succ n ih =>
    rw [P_Ledger_setInForce_76.eq_2] at h
    refine ai (r_iload (pc := 76) (k := 3) (by decide +kernel : decode k_P_Ledger_setInForce.2.1 76 = .ok (.iload 4, 2)) rfl) ?_
    refine ai (r_iload_n (pc := 78) (k := 2) (by decide +kernel : decode k_P_Ledger_setInForce.2.1 78 = .ok (.iload_n 3, 1)) rfl rfl) ?_
    rcases ite_some h with ⟨c1, h⟩ | ⟨c1, h⟩
    · refine ai (r_icmp_ge_t (pc := 79) (tgt := 160) (by decide +kernel : decode k_P_Ledger_setInForce.2.1 79 = .ok (.if_icmp .ge (81), 3)) (by decide) c1) ?_
      cases h
      exact ⟨r_vret rfl (by decide +kernel : decode k_P_Ledger_setInForce.2.1 160 = .ok (.return_, 1)), hL⟩
    · refine ai (r_icmp_ge_f (pc := 79) 160 (by decide +kernel : decode k_P_Ledger_setInForce.2.1 79 = .ok (.if_icmp .ge (81), 3)) (by decide) c1) ?_
      refine ai (p_aload_n (pc := 82) (k := 0) (by decide +kernel : decode k_P_Ledger_setInForce.2.1 82 = .ok (.aload_n 0, 1)) rfl rfl) ?_
      refine ai (p_getr (pc := 83) (PR_512_13 hL) (by decide +kernel : decode k_P_Ledger_setInForce.2.1 83 = .ok (.getfield 11, 3)) lg_4_11 (PC_13 hL).1) ?_
      refine ai (r_iload (pc := 86) (k := 3) (by decide +kernel : decode k_P_Ledger_setInForce.2.1 86 = .ok (.iload 4, 2)) rfl) ?_
      obtain ⟨g2, h⟩ := gd_some h
      obtain ⟨a3, o4, h⟩ := gs_some h
      refine ai (p_aaldr (pc := 88) (j := 2) (by decide) o4 (by decide +kernel : decode k_P_Ledger_setInForce.2.1 88 = .ok (.aaload, 1)) (PC_14 hL).1 (PC_14 hL).2 g2) ?_
      obtain ⟨t5, h⟩ := gt_some h
      refine ai (r_getI (pc := 89) (by decide +kernel : decode k_P_Ledger_setInForce.2.1 89 = .ok (.getfield 58, 3)) lg_4_58 (by decide) t5) ?_
      refine ai (r_bipush (pc := 92) (by decide +kernel : decode k_P_Ledger_setInForce.2.1 92 = .ok (.bipush (10), 2)) (by decide : _ = (10 : Int32))) ?_
      rcases ite_some h with ⟨c6, h⟩ | ⟨c6, h⟩
      · refine ai (r_icmp_ne_f (pc := 94) 154 (by decide +kernel : decode k_P_Ledger_setInForce.2.1 94 = .ok (.if_icmp .ne (60), 3)) (by decide) c6) ?_
        refine ai (r_iload_n (pc := 97) (k := 1) (by decide +kernel : decode k_P_Ledger_setInForce.2.1 97 = .ok (.iload_n 2, 1)) rfl rfl) ?_
        refine ai (p_aload_n (pc := 98) (k := 0) (by decide +kernel : decode k_P_Ledger_setInForce.2.1 98 = .ok (.aload_n 0, 1)) rfl rfl) ?_
        refine ai (p_getr (pc := 99) (PR_512_13 hL) (by decide +kernel : decode k_P_Ledger_setInForce.2.1 99 = .ok (.getfield 11, 3)) lg_4_11 (PC_13 hL).1) ?_
        refine ai (r_iload (pc := 102) (k := 3) (by decide +kernel : decode k_P_Ledger_setInForce.2.1 102 = .ok (.iload 4, 2)) rfl) ?_
        obtain ⟨g7, h⟩ := gd_some h
        obtain ⟨a8, o9, h⟩ := gs_some h
        refine ai (p_aaldr (pc := 104) (j := 2) (by decide) o9 (by decide +kernel : decode k_P_Ledger_setInForce.2.1 104 = .ok (.aaload, 1)) (PC_14 hL).1 (PC_14 hL).2 g7) ?_
        obtain ⟨t10, h⟩ := gt_some h
        refine ai (r_getI (pc := 105) (by decide +kernel : decode k_P_Ledger_setInForce.2.1 105 = .ok (.getfield 65, 3)) lg_4_65 (by decide) t10) ?_
        refine ai (p_aload_n (pc := 108) (k := 0) (by decide +kernel : decode k_P_Ledger_setInForce.2.1 108 = .ok (.aload_n 0, 1)) rfl rfl) ?_
        refine ai (p_getr (pc := 109) (PR_512_13 hL) (by decide +kernel : decode k_P_Ledger_setInForce.2.1 109 = .ok (.getfield 11, 3)) lg_4_11 (PC_13 hL).1) ?_
        refine ai (r_iload (pc := 112) (k := 3) (by decide +kernel : decode k_P_Ledger_setInForce.2.1 112 = .ok (.iload 4, 2)) rfl) ?_
        obtain ⟨g11, h⟩ := gd_some h
        obtain ⟨a12, o13, h⟩ := gs_some h
        refine ai (p_aaldr (pc := 114) (j := 2) (by decide) o13 (by decide +kernel : decode k_P_Ledger_setInForce.2.1 114 = .ok (.aaload, 1)) (PC_14 hL).1 (PC_14 hL).2 g11) ?_
        obtain ⟨t14, h⟩ := gt_some h
        refine ai (r_getI (pc := 115) (by decide +kernel : decode k_P_Ledger_setInForce.2.1 115 = .ok (.getfield 68, 3)) lg_4_68 (by decide) t14) ?_
        refine ai (r_iconst (pc := 118) (by decide +kernel : decode k_P_Ledger_setInForce.2.1 118 = .ok (.iconst 1, 1)) ic_1) ?_
        refine ai (r_isub (pc := 119) (by decide +kernel : decode k_P_Ledger_setInForce.2.1 119 = .ok (.isub, 1))) ?_
        obtain ⟨r15, hr15, h⟩ := bp_some h
        refine ai (q_callSN (pc := 120) (As := [.int x2, .int (mI m 2 a8), .int ((mI m 4 a12) - 1)]) (st := []) (st2 := [.int r15]) rfl rfl (by decide +kernel : decode k_P_Ledger_setInForce.2.1 120 = .ok (.invokestatic 27, 3)) lc_4_27 mo_P_within ⟨Nat.le_of_ble_eq_true rfl, Nat.le_of_ble_eq_true rfl⟩ (Nat.le_of_ble_eq_true rfl) (Nat.le_of_ble_eq_true rfl) (P_within_run hr15)) ?_
        rcases ite_some h with ⟨c16, h⟩ | ⟨c16, h⟩
        · refine ai (r_if_eq_t (pc := 123) (tgt := 154) (by decide +kernel : decode k_P_Ledger_setInForce.2.1 123 = .ok (.ifCond .eq (31), 3)) (by decide) c16) ?_
          exact (P_Ledger_setInForce_154_run (fun _ _ _ _ _ _ q1 q3 => ih q1 q3) hL h)
        · refine ai (r_if_eq_f (pc := 123) 154 (by decide +kernel : decode k_P_Ledger_setInForce.2.1 123 = .ok (.ifCond .eq (31), 3)) (by decide) c16) ?_
          refine ai (p_aload_n (pc := 126) (k := 0) (by decide +kernel : decode k_P_Ledger_setInForce.2.1 126 = .ok (.aload_n 0, 1)) rfl rfl) ?_
          refine ai (p_aload_n (pc := 127) (k := 0) (by decide +kernel : decode k_P_Ledger_setInForce.2.1 127 = .ok (.aload_n 0, 1)) rfl rfl) ?_
          refine ai (p_getr (pc := 128) (PR_512_13 hL) (by decide +kernel : decode k_P_Ledger_setInForce.2.1 128 = .ok (.getfield 11, 3)) lg_4_11 (PC_13 hL).1) ?_
          refine ai (r_iload (pc := 131) (k := 3) (by decide +kernel : decode k_P_Ledger_setInForce.2.1 131 = .ok (.iload 4, 2)) rfl) ?_
          obtain ⟨g17, h⟩ := gd_some h
          obtain ⟨a18, o19, h⟩ := gs_some h
          refine ai (p_aaldr (pc := 133) (j := 2) (by decide) o19 (by decide +kernel : decode k_P_Ledger_setInForce.2.1 133 = .ok (.aaload, 1)) (PC_14 hL).1 (PC_14 hL).2 g17) ?_
          obtain ⟨t20, h⟩ := gt_some h
          refine ai (r_getI (pc := 134) (by decide +kernel : decode k_P_Ledger_setInForce.2.1 134 = .ok (.getfield 59, 3)) lg_4_59 (by decide) t20) ?_
          refine ai (r_iload_n (pc := 137) (k := 2) (by decide +kernel : decode k_P_Ledger_setInForce.2.1 137 = .ok (.iload_n 3, 1)) rfl rfl) ?_
          obtain ⟨r21, m22, hr21, h⟩ := bn_some h
          have q23 := P_Ledger_textAt_run hL hr21
          have c24 := (PC_13 hL).1
          have hL := q23.2
          refine ai (q_callV (pc := 138) (As := [.int (mI m 1 a18), .int x3]) (st := []) (st2 := [va_rf r21]) (b := 13) rfl rfl (by decide +kernel : decode k_P_Ledger_setInForce.2.1 138 = .ok (.invokevirtual 85, 3)) lc_4_85 mo_P_Ledger_textAt ⟨Nat.le_of_ble_eq_true rfl, Nat.le_of_ble_eq_true rfl⟩ (Nat.le_of_ble_eq_true rfl) (Nat.le_of_ble_eq_true rfl) c24 q23.1) ?_
          refine ai (r_astore (pc := 141) (by decide +kernel : decode k_P_Ledger_setInForce.2.1 141 = .ok (.astore 5, 2)) (by decide) rfl) ?_
          refine ai (r_aload (pc := 143) (k := 0) (by decide +kernel : decode k_P_Ledger_setInForce.2.1 143 = .ok (.aload 5, 2)) rfl) ?_
          rcases ite_some h with ⟨c25, h⟩ | ⟨c25, h⟩
          · refine ai (d_ifnull_t (pc := 145) (tgt := 154) c25 (by decide +kernel : decode k_P_Ledger_setInForce.2.1 145 = .ok (.ifnull (9), 3)) (by decide)) ?_
            exact (ai (r_sub [1, 2, 3, 4] rfl) (P_Ledger_setInForce_154_run (fun _ _ _ _ _ _ q1 q3 => ih q1 q3) hL h))
          · refine ai (d_ifnull_f (pc := 145) c25 (by decide +kernel : decode k_P_Ledger_setInForce.2.1 145 = .ok (.ifnull (9), 3))) ?_
            obtain ⟨a26, rfl, hha26⟩ := gs_some h
            have h := hha26
            refine ai (p_aload (pc := 148) (k := 0) (by decide +kernel : decode k_P_Ledger_setInForce.2.1 148 = .ok (.aload 5, 2)) rfl) ?_
            refine ai (r_iconst (pc := 150) (by decide +kernel : decode k_P_Ledger_setInForce.2.1 150 = .ok (.iconst 0, 1)) ic_0) ?_
            obtain ⟨t27, h⟩ := gt_some h
            obtain ⟨m28, hm28, h⟩ := vb_some h
            have hL : PL m28 := by rw [hm28]; exact hL
            have t29 : mT m28 a26 = 11 := by rw [hm28]; exact t27
            refine ai (p_putZ (pc := 151) hm28 (by decide) (by decide +kernel : decode k_P_Ledger_setInForce.2.1 151 = .ok (.putfield 81, 3)) lp_4_81 t27) ?_
            exact (ai (r_sub [1, 2, 3, 4] rfl) (P_Ledger_setInForce_154_run (fun _ _ _ _ _ _ q1 q3 => ih q1 q3) hL h))
      · refine ai (r_icmp_ne_t (pc := 94) (tgt := 154) (by decide +kernel : decode k_P_Ledger_setInForce.2.1 94 = .ok (.if_icmp .ne (60), 3)) (by decide) c6) ?_
        exact (P_Ledger_setInForce_154_run (fun _ _ _ _ _ _ q1 q3 => ih q1 q3) hL h)
set_option maxRecDepth 100000 in
set_option maxHeartbeats 4000000 in
theorem P_Ledger_setInForce_73_run {x2 : Int32} {x3 : Int32} {m m' : Mem} {r : Unit} (hL : PL m) (h : P_Ledger_setInForce_73 x2 x3 m = some (r, m')) : Run k_P_Ledger_setInForce 73 [(0, .ref 13), (2, .int x2), (3, .int x3)] [] m none m' ∧ PL m' := by
  unfold P_Ledger_setInForce_73 at h
  refine ai (r_iconst (pc := 73) (by decide +kernel : decode k_P_Ledger_setInForce.2.1 73 = .ok (.iconst 0, 1)) ic_0) ?_
  refine ai (e_istore (pc := 74) rfl (by decide +kernel : decode k_P_Ledger_setInForce.2.1 74 = .ok (.istore 4, 2)) (by decide) rfl) ?_
  exact (ai (r_sub [1, 2, 3, 0] rfl) (P_Ledger_setInForce_76_run hL h))
set_option maxRecDepth 100000 in
set_option maxHeartbeats 4000000 in
theorem P_Ledger_setInForce_3_run {n : Nat} {x1 : Int32} {x2 : Int32} {x3 : Int32} {x4 : Int32} {m m' : Mem} {r : Unit} (hL : PL m) (h : P_Ledger_setInForce_3 n x1 x2 x3 x4 m = some (r, m')) : Run k_P_Ledger_setInForce 3 [(0, .ref 13), (1, .int x1), (2, .int x2), (3, .int x3), (4, .int x4)] [] m none m' ∧ PL m' := by
  induction n generalizing x1 x2 x3 x4 m r m' with
  | zero => exact absurd h (by simp [P_Ledger_setInForce_3])
  | succ n ih =>
    rw [P_Ledger_setInForce_3.eq_2] at h
    refine ai (r_iload (pc := 3) (k := 4) (by decide +kernel : decode k_P_Ledger_setInForce.2.1 3 = .ok (.iload 4, 2)) rfl) ?_
    refine ai (p_aload_n (pc := 5) (k := 0) (by decide +kernel : decode k_P_Ledger_setInForce.2.1 5 = .ok (.aload_n 0, 1)) rfl rfl) ?_
    refine ai (r_getI (pc := 6) (by decide +kernel : decode k_P_Ledger_setInForce.2.1 6 = .ok (.getfield 39, 3)) lg_4_39 (by decide) (PC_13 hL).1) ?_
    rcases ite_some h with ⟨c1, h⟩ | ⟨c1, h⟩
    · refine ai (r_icmp_ge_t (pc := 9) (tgt := 73) (by decide +kernel : decode k_P_Ledger_setInForce.2.1 9 = .ok (.if_icmp .ge (64), 3)) (by decide) c1) ?_
      exact (ai (r_sub [0, 2, 3] rfl) (P_Ledger_setInForce_73_run hL h))
    · refine ai (r_icmp_ge_f (pc := 9) 73 (by decide +kernel : decode k_P_Ledger_setInForce.2.1 9 = .ok (.if_icmp .ge (64), 3)) (by decide) c1) ?_
      refine ai (p_aload_n (pc := 12) (k := 0) (by decide +kernel : decode k_P_Ledger_setInForce.2.1 12 = .ok (.aload_n 0, 1)) rfl rfl) ?_
      refine ai (p_getr (pc := 13) (PR_513_13 hL) (by decide +kernel : decode k_P_Ledger_setInForce.2.1 13 = .ok (.getfield 19, 3)) lg_4_19 (PC_13 hL).1) ?_
      refine ai (r_iload (pc := 16) (k := 4) (by decide +kernel : decode k_P_Ledger_setInForce.2.1 16 = .ok (.iload 4, 2)) rfl) ?_
      obtain ⟨g2, h⟩ := gd_some h
      obtain ⟨a3, o4, h⟩ := gs_some h
      refine ai (p_aaldr (pc := 18) (j := 1) (by decide) o4 (by decide +kernel : decode k_P_Ledger_setInForce.2.1 18 = .ok (.aaload, 1)) (PC_15 hL).1 (PC_15 hL).2 g2) ?_
      refine ai (p_astore (pc := 19) (by decide +kernel : decode k_P_Ledger_setInForce.2.1 19 = .ok (.astore 5, 2)) (by decide) rfl) ?_
      refine ai (p_aload (pc := 21) (k := 0) (by decide +kernel : decode k_P_Ledger_setInForce.2.1 21 = .ok (.aload 5, 2)) rfl) ?_
      refine ai (p_aload (pc := 23) (k := 0) (by decide +kernel : decode k_P_Ledger_setInForce.2.1 23 = .ok (.aload 5, 2)) rfl) ?_
      obtain ⟨t5, h⟩ := gt_some h
      refine ai (r_getI (pc := 25) (by decide +kernel : decode k_P_Ledger_setInForce.2.1 25 = .ok (.getfield 75, 3)) lg_4_75 (by decide) t5) ?_
      refine ai (r_iload_n (pc := 28) (k := 4) (by decide +kernel : decode k_P_Ledger_setInForce.2.1 28 = .ok (.iload_n 3, 1)) rfl rfl) ?_
      rcases ite_some h with ⟨c6, h⟩ | ⟨c6, h⟩
      · refine ai (r_icmp_ge_t (pc := 29) (tgt := 63) (by decide +kernel : decode k_P_Ledger_setInForce.2.1 29 = .ok (.if_icmp .ge (34), 3)) (by decide) c6) ?_
        exact (ai (r_sub [1, 2, 3, 4, 5] rfl) (P_Ledger_setInForce_63_run (fun _ _ _ _ _ _ _ q1 q3 => ih q1 q3) hL h))
      · refine ai (r_icmp_ge_f (pc := 29) 63 (by decide +kernel : decode k_P_Ledger_setInForce.2.1 29 = .ok (.if_icmp .ge (34), 3)) (by decide) c6) ?_
        refine ai (p_aload (pc := 32) (k := 0) (by decide +kernel : decode k_P_Ledger_setInForce.2.1 32 = .ok (.aload 5, 2)) rfl) ?_
        refine ai (r_getI (pc := 34) (by decide +kernel : decode k_P_Ledger_setInForce.2.1 34 = .ok (.getfield 55, 3)) lg_4_55 (by decide) t5) ?_
        refine ai (r_iload_n (pc := 37) (k := 3) (by decide +kernel : decode k_P_Ledger_setInForce.2.1 37 = .ok (.iload_n 2, 1)) rfl rfl) ?_
        rcases ite_some h with ⟨c7, h⟩ | ⟨c7, h⟩
        · refine ai (r_icmp_gt_t (pc := 38) (tgt := 63) (by decide +kernel : decode k_P_Ledger_setInForce.2.1 38 = .ok (.if_icmp .gt (25), 3)) (by decide) c7) ?_
          exact (ai (r_sub [1, 2, 3, 4, 5] rfl) (P_Ledger_setInForce_63_run (fun _ _ _ _ _ _ _ q1 q3 => ih q1 q3) hL h))
        · refine ai (r_icmp_gt_f (pc := 38) 63 (by decide +kernel : decode k_P_Ledger_setInForce.2.1 38 = .ok (.if_icmp .gt (25), 3)) (by decide) c7) ?_
          refine ai (p_aload (pc := 41) (k := 0) (by decide +kernel : decode k_P_Ledger_setInForce.2.1 41 = .ok (.aload 5, 2)) rfl) ?_
          refine ai (r_getI (pc := 43) (by decide +kernel : decode k_P_Ledger_setInForce.2.1 43 = .ok (.getfield 78, 3)) lg_4_78 (by decide) t5) ?_
          refine ai (r_iconst (pc := 46) (by decide +kernel : decode k_P_Ledger_setInForce.2.1 46 = .ok (.iconst (-1), 1)) ic_m1) ?_
          rcases ite_some h with ⟨c8, h⟩ | ⟨c8, h⟩
          · refine ai (r_icmp_eq_t (pc := 47) (tgt := 59) (by decide +kernel : decode k_P_Ledger_setInForce.2.1 47 = .ok (.if_icmp .eq (12), 3)) (by decide) c8) ?_
            exact (ai (r_sub [1, 2, 3, 4, 5] rfl) (P_Ledger_setInForce_59_run (fun _ _ _ _ _ _ _ q1 q3 => ih q1 q3) hL h))
          · refine ai (r_icmp_eq_f (pc := 47) 59 (by decide +kernel : decode k_P_Ledger_setInForce.2.1 47 = .ok (.if_icmp .eq (12), 3)) (by decide) c8) ?_
            refine ai (p_aload (pc := 50) (k := 0) (by decide +kernel : decode k_P_Ledger_setInForce.2.1 50 = .ok (.aload 5, 2)) rfl) ?_
            refine ai (r_getI (pc := 52) (by decide +kernel : decode k_P_Ledger_setInForce.2.1 52 = .ok (.getfield 78, 3)) lg_4_78 (by decide) t5) ?_
            refine ai (r_iload_n (pc := 55) (k := 2) (by decide +kernel : decode k_P_Ledger_setInForce.2.1 55 = .ok (.iload_n 1, 1)) rfl rfl) ?_
            rcases ite_some h with ⟨c9, h⟩ | ⟨c9, h⟩
            · refine ai (r_icmp_ne_f (pc := 56) 63 (by decide +kernel : decode k_P_Ledger_setInForce.2.1 56 = .ok (.if_icmp .ne (7), 3)) (by decide) c9) ?_
              exact (ai (r_sub [1, 2, 3, 4, 5] rfl) (P_Ledger_setInForce_59_run (fun _ _ _ _ _ _ _ q1 q3 => ih q1 q3) hL h))
            · refine ai (r_icmp_ne_t (pc := 56) (tgt := 63) (by decide +kernel : decode k_P_Ledger_setInForce.2.1 56 = .ok (.if_icmp .ne (7), 3)) (by decide) c9) ?_
              exact (ai (r_sub [1, 2, 3, 4, 5] rfl) (P_Ledger_setInForce_63_run (fun _ _ _ _ _ _ _ q1 q3 => ih q1 q3) hL h))
set_option maxRecDepth 100000 in
set_option maxHeartbeats 4000000 in
theorem P_Ledger_setInForce_run {x1 : Int32} {x2 : Int32} {x3 : Int32} {m m' : Mem} {r : Unit} (hL : PL m) (h : P_Ledger_setInForce x1 x2 x3 m = some (r, m')) : Run k_P_Ledger_setInForce 0 [(0, .ref 13), (1, .int x1), (2, .int x2), (3, .int x3)] [] m none m' ∧ PL m' := by
  unfold P_Ledger_setInForce at h
  refine ai (r_iconst (pc := 0) (by decide +kernel : decode k_P_Ledger_setInForce.2.1 0 = .ok (.iconst 0, 1)) ic_0) ?_
  refine ai (e_istore (pc := 1) rfl (by decide +kernel : decode k_P_Ledger_setInForce.2.1 1 = .ok (.istore 4, 2)) (by decide) rfl) ?_
  exact (ai (r_sub [1, 2, 3, 4, 0] rfl) (P_Ledger_setInForce_3_run hL h))
set_option maxRecDepth 100000 in
set_option maxHeartbeats 4000000 in
theorem P_Text_changesAward_run {a0 : Nat} {m m' : Mem} {r : Int32} (hL : PL m) (ht : mT m a0 = 11) (h : P_Text_changesAward a0 m = some (r, m')) : Run k_P_Text_changesAward 0 [(0, .ref a0)] [] m (some (.int r)) m' ∧ PL m' := by
  unfold P_Text_changesAward at h
  refine ai (p_aload_n (pc := 0) (k := 0) (by decide +kernel : decode k_P_Text_changesAward.2.1 0 = .ok (.aload_n 0, 1)) rfl rfl) ?_
  refine ai (p_getR (pc := 1) (by decide +kernel : decode k_P_Text_changesAward.2.1 1 = .ok (.getfield 33, 3)) lg_10_33 ht) ?_
  rcases ite_some h with ⟨c1, h⟩ | ⟨c1, h⟩
  · refine ai (d_ifnull_t (pc := 4) (tgt := 19) c1 (by decide +kernel : decode k_P_Text_changesAward.2.1 4 = .ok (.ifnull (15), 3)) (by decide)) ?_
    refine ai (r_iconst (pc := 19) (by decide +kernel : decode k_P_Text_changesAward.2.1 19 = .ok (.iconst 0, 1)) ic_0) ?_
    cases h
    exact ⟨r_zret (by decide) rfl (by decide +kernel : decode k_P_Text_changesAward.2.1 20 = .ok (.ireturn, 1)), hL⟩
  · refine ai (d_ifnull_f (pc := 4) c1 (by decide +kernel : decode k_P_Text_changesAward.2.1 4 = .ok (.ifnull (15), 3))) ?_
    refine ai (p_aload_n (pc := 7) (k := 0) (by decide +kernel : decode k_P_Text_changesAward.2.1 7 = .ok (.aload_n 0, 1)) rfl rfl) ?_
    refine ai (r_getI (pc := 8) (by decide +kernel : decode k_P_Text_changesAward.2.1 8 = .ok (.getfield 18, 3)) lg_10_18 (by decide) ht) ?_
    refine ai (r_iconst (pc := 11) (by decide +kernel : decode k_P_Text_changesAward.2.1 11 = .ok (.iconst 3, 1)) ic_3) ?_
    rcases ite_some h with ⟨c2, h⟩ | ⟨c2, h⟩
    · refine ai (r_icmp_eq_t (pc := 12) (tgt := 19) (by decide +kernel : decode k_P_Text_changesAward.2.1 12 = .ok (.if_icmp .eq (7), 3)) (by decide) c2) ?_
      refine ai (r_iconst (pc := 19) (by decide +kernel : decode k_P_Text_changesAward.2.1 19 = .ok (.iconst 0, 1)) ic_0) ?_
      cases h
      exact ⟨r_zret (by decide) rfl (by decide +kernel : decode k_P_Text_changesAward.2.1 20 = .ok (.ireturn, 1)), hL⟩
    · refine ai (r_icmp_eq_f (pc := 12) 19 (by decide +kernel : decode k_P_Text_changesAward.2.1 12 = .ok (.if_icmp .eq (7), 3)) (by decide) c2) ?_
      refine ai (r_iconst (pc := 15) (by decide +kernel : decode k_P_Text_changesAward.2.1 15 = .ok (.iconst 1, 1)) ic_1) ?_
      refine ai (r_goto (pc := 16) (tgt := 20) (by decide +kernel : decode k_P_Text_changesAward.2.1 16 = .ok (.goto (4), 3)) (by decide)) ?_
      cases h
      exact ⟨r_zret (by decide) rfl (by decide +kernel : decode k_P_Text_changesAward.2.1 20 = .ok (.ireturn, 1)), hL⟩
set_option maxRecDepth 100000 in
set_option maxHeartbeats 4000000 in
theorem P_Text_clear_run {a0 : Nat} {m m' : Mem} {r : Unit} (hL : PL m) (ht : mT m a0 = 11) (h : P_Text_clear a0 m = some (r, m')) : Run k_P_Text_clear 0 [(0, .ref a0)] [] m none m' ∧ PL m' := by
  unfold P_Text_clear at h
  refine ai (p_aload_n (pc := 0) (k := 0) (by decide +kernel : decode k_P_Text_clear.2.1 0 = .ok (.aload_n 0, 1)) rfl rfl) ?_
  refine ai (r_iconst (pc := 1) (by decide +kernel : decode k_P_Text_clear.2.1 1 = .ok (.iconst 0, 1)) ic_0) ?_
  obtain ⟨m1, hm1, h⟩ := vb_some h
  have hL : PL m1 := by rw [hm1]; exact hL
  have t2 : mT m1 a0 = 11 := by rw [hm1]; exact ht
  refine ai (p_putI (pc := 2) hm1 (by decide +kernel : decode k_P_Text_clear.2.1 2 = .ok (.putfield 56, 3)) lp_10_56 ht) ?_
  refine ai (p_aload_n (pc := 5) (k := 0) (by decide +kernel : decode k_P_Text_clear.2.1 5 = .ok (.aload_n 0, 1)) rfl rfl) ?_
  refine ai (r_bipush (pc := 6) (by decide +kernel : decode k_P_Text_clear.2.1 6 = .ok (.bipush (51), 2)) (by decide : _ = (51 : Int32))) ?_
  obtain ⟨m3, hm3, h⟩ := vb_some h
  have hL : PL m3 := by rw [hm3]; exact hL
  have t4 : mT m3 a0 = 11 := by rw [hm3]; exact t2
  refine ai (p_putI (pc := 8) hm3 (by decide +kernel : decode k_P_Text_clear.2.1 8 = .ok (.putfield 9, 3)) lp_10_9 t2) ?_
  refine ai (p_aload_n (pc := 11) (k := 0) (by decide +kernel : decode k_P_Text_clear.2.1 11 = .ok (.aload_n 0, 1)) rfl rfl) ?_
  refine ai (r_iconst (pc := 12) (by decide +kernel : decode k_P_Text_clear.2.1 12 = .ok (.iconst 1, 1)) ic_1) ?_
  obtain ⟨m5, hm5, h⟩ := vb_some h
  have hL : PL m5 := by rw [hm5]; exact hL
  have t6 : mT m5 a0 = 11 := by rw [hm5]; exact t4
  refine ai (p_putI (pc := 13) hm5 (by decide +kernel : decode k_P_Text_clear.2.1 13 = .ok (.putfield 15, 3)) lp_10_15 t4) ?_
  cases h
  exact ⟨r_vret rfl (by decide +kernel : decode k_P_Text_clear.2.1 16 = .ok (.return_, 1)), hL⟩
set_option maxRecDepth 100000 in
set_option maxHeartbeats 4000000 in
theorem P_Text_entryOf_2_run {n : Nat} {a0 : Nat} {x1 : Int32} {x2 : Int32} {m m' : Mem} {r : Int32} (hL : PL m) (ht : mT m a0 = 11) (h : P_Text_entryOf_2 n a0 x1 x2 m = some (r, m')) : Run k_P_Text_entryOf 2 [(0, .ref a0), (1, .int x1), (2, .int x2)] [] m (some (.int r)) m' ∧ PL m' := by
  induction n generalizing a0 x1 x2 m r m' with
  | zero => exact absurd h (by simp [P_Text_entryOf_2])
  | succ n ih =>
    rw [P_Text_entryOf_2.eq_2] at h
    refine ai (r_iload_n (pc := 2) (k := 2) (by decide +kernel : decode k_P_Text_entryOf.2.1 2 = .ok (.iload_n 2, 1)) rfl rfl) ?_
    refine ai (p_aload_n (pc := 3) (k := 0) (by decide +kernel : decode k_P_Text_entryOf.2.1 3 = .ok (.aload_n 0, 1)) rfl rfl) ?_
    refine ai (r_getI (pc := 4) (by decide +kernel : decode k_P_Text_entryOf.2.1 4 = .ok (.getfield 56, 3)) lg_10_56 (by decide) ht) ?_
    rcases ite_some h with ⟨c1, h⟩ | ⟨c1, h⟩
    · refine ai (r_icmp_ge_t (pc := 7) (tgt := 31) (by decide +kernel : decode k_P_Text_entryOf.2.1 7 = .ok (.if_icmp .ge (24), 3)) (by decide) c1) ?_
      refine ai (r_iconst (pc := 31) (by decide +kernel : decode k_P_Text_entryOf.2.1 31 = .ok (.iconst (-1), 1)) ic_m1) ?_
      cases h
      exact ⟨r_iret rfl (by decide +kernel : decode k_P_Text_entryOf.2.1 32 = .ok (.ireturn, 1)), hL⟩
    · refine ai (r_icmp_ge_f (pc := 7) 31 (by decide +kernel : decode k_P_Text_entryOf.2.1 7 = .ok (.if_icmp .ge (24), 3)) (by decide) c1) ?_
      refine ai (p_aload_n (pc := 10) (k := 0) (by decide +kernel : decode k_P_Text_entryOf.2.1 10 = .ok (.aload_n 0, 1)) rfl rfl) ?_
      obtain ⟨a2, o3, h⟩ := gs_some h
      refine ai (p_getr (pc := 11) o3 (by decide +kernel : decode k_P_Text_entryOf.2.1 11 = .ok (.getfield 43, 3)) lg_10_43 ht) ?_
      refine ai (r_iload_n (pc := 14) (k := 2) (by decide +kernel : decode k_P_Text_entryOf.2.1 14 = .ok (.iload_n 2, 1)) rfl rfl) ?_
      obtain ⟨t4, h⟩ := gt_some h
      obtain ⟨g5, h⟩ := gd_some h
      obtain ⟨a6, o7, h⟩ := gs_some h
      refine ai (p_aaldr (pc := 15) (j := 0) (by decide) o7 (by decide +kernel : decode k_P_Text_entryOf.2.1 15 = .ok (.aaload, 1)) t4 rfl g5) ?_
      obtain ⟨t8, h⟩ := gt_some h
      refine ai (r_getI (pc := 16) (by decide +kernel : decode k_P_Text_entryOf.2.1 16 = .ok (.getfield 59, 3)) lg_10_59 (by decide) t8) ?_
      refine ai (r_iload_n (pc := 19) (k := 1) (by decide +kernel : decode k_P_Text_entryOf.2.1 19 = .ok (.iload_n 1, 1)) rfl rfl) ?_
      rcases ite_some h with ⟨c9, h⟩ | ⟨c9, h⟩
      · refine ai (r_icmp_ne_f (pc := 20) 25 (by decide +kernel : decode k_P_Text_entryOf.2.1 20 = .ok (.if_icmp .ne (5), 3)) (by decide) c9) ?_
        refine ai (r_iload_n (pc := 23) (k := 2) (by decide +kernel : decode k_P_Text_entryOf.2.1 23 = .ok (.iload_n 2, 1)) rfl rfl) ?_
        cases h
        exact ⟨r_iret rfl (by decide +kernel : decode k_P_Text_entryOf.2.1 24 = .ok (.ireturn, 1)), hL⟩
      · refine ai (r_icmp_ne_t (pc := 20) (tgt := 25) (by decide +kernel : decode k_P_Text_entryOf.2.1 20 = .ok (.if_icmp .ne (5), 3)) (by decide) c9) ?_
        obtain ⟨v10, hv10, h⟩ := vb_some h
        refine ai (e_iinc (pc := 25) (k := 2) hv10 ic_1 (by decide +kernel : decode k_P_Text_entryOf.2.1 25 = .ok (.iinc 2 (1), 3)) rfl (by decide) rfl) ?_
        refine ai (r_goto (pc := 28) (tgt := 2) (by decide +kernel : decode k_P_Text_entryOf.2.1 28 = .ok (.goto (-26), 3)) (by decide)) ?_
        exact (ai (r_sub [1, 2, 0] rfl) (ih hL ht h))
set_option maxRecDepth 100000 in
set_option maxHeartbeats 4000000 in
theorem P_Text_entryOf_run {a0 : Nat} {x1 : Int32} {m m' : Mem} {r : Int32} (hL : PL m) (ht : mT m a0 = 11) (h : P_Text_entryOf a0 x1 m = some (r, m')) : Run k_P_Text_entryOf 0 [(0, .ref a0), (1, .int x1)] [] m (some (.int r)) m' ∧ PL m' := by
  unfold P_Text_entryOf at h
  refine ai (r_iconst (pc := 0) (by decide +kernel : decode k_P_Text_entryOf.2.1 0 = .ok (.iconst 0, 1)) ic_0) ?_
  refine ai (e_istore_n (pc := 1) rfl (by decide +kernel : decode k_P_Text_entryOf.2.1 1 = .ok (.istore_n 2, 1)) rfl (by decide) rfl) ?_
  exact (ai (r_sub [1, 2, 0] rfl) (P_Text_entryOf_2_run hL ht h))
set_option maxRecDepth 100000 in
set_option maxHeartbeats 4000000 in
theorem P_Text_put_41_run {a0 : Nat} {x1 : Option Nat} {x2 : Int32} {m m' : Mem} {r : Unit} (hL : PL m) (ht : mT m a0 = 11) (h : P_Text_put_41 a0 x1 x2 m = some (r, m')) : Run k_P_Text_put 41 [(0, .ref a0), (1, va_rf x1), (2, .int x2)] [] m none m' ∧ PL m' := by
  unfold P_Text_put_41 at h
  refine ai (r_iload_n (pc := 41) (k := 2) (by decide +kernel : decode k_P_Text_put.2.1 41 = .ok (.iload_n 2, 1)) rfl rfl) ?_
  refine ai (r_iconst (pc := 42) (by decide +kernel : decode k_P_Text_put.2.1 42 = .ok (.iconst (-1), 1)) ic_m1) ?_
  rcases ite_some h with ⟨c1, h⟩ | ⟨c1, h⟩
  · refine ai (r_icmp_eq_t (pc := 43) (tgt := 60) (by decide +kernel : decode k_P_Text_put.2.1 43 = .ok (.if_icmp .eq (17), 3)) (by decide) c1) ?_
    cases h
    exact ⟨r_vret rfl (by decide +kernel : decode k_P_Text_put.2.1 60 = .ok (.return_, 1)), hL⟩
  · refine ai (r_icmp_eq_f (pc := 43) 60 (by decide +kernel : decode k_P_Text_put.2.1 43 = .ok (.if_icmp .eq (17), 3)) (by decide) c1) ?_
    refine ai (p_aload_n (pc := 46) (k := 0) (by decide +kernel : decode k_P_Text_put.2.1 46 = .ok (.aload_n 0, 1)) rfl rfl) ?_
    obtain ⟨a2, o3, h⟩ := gs_some h
    refine ai (p_getr (pc := 47) o3 (by decide +kernel : decode k_P_Text_put.2.1 47 = .ok (.getfield 43, 3)) lg_10_43 ht) ?_
    refine ai (r_iload_n (pc := 50) (k := 2) (by decide +kernel : decode k_P_Text_put.2.1 50 = .ok (.iload_n 2, 1)) rfl rfl) ?_
    refine ai (r_aload_n (pc := 51) (k := 1) (by decide +kernel : decode k_P_Text_put.2.1 51 = .ok (.aload_n 1, 1)) rfl rfl) ?_
    obtain ⟨t4, h⟩ := gt_some h
    obtain ⟨g5, h⟩ := gd_some h
    obtain ⟨g6, h⟩ := go_some h
    obtain ⟨m7, hm7, h⟩ := vb_some h
    have hL : PL m7 := by rw [hm7]; exact hL
    have t8 : mT m7 a0 = 11 := by rw [hm7]; exact ht
    have t9 : mT m7 a2 = 36 := by rw [hm7]; exact t4
    refine ai (p_aast (pc := 52) (j := 0) (by decide) hm7 (by decide +kernel : decode k_P_Text_put.2.1 52 = .ok (.aastore, 1)) t4 rfl g5 g6) ?_
    refine ai (p_aload_n (pc := 53) (k := 0) (by decide +kernel : decode k_P_Text_put.2.1 53 = .ok (.aload_n 0, 1)) rfl rfl) ?_
    obtain ⟨a10, o11, h⟩ := gs_some h
    refine ai (p_getr (pc := 54) o11 (by decide +kernel : decode k_P_Text_put.2.1 54 = .ok (.getfield 46, 3)) lg_10_46 t8) ?_
    refine ai (r_iload_n (pc := 57) (k := 2) (by decide +kernel : decode k_P_Text_put.2.1 57 = .ok (.iload_n 2, 1)) rfl rfl) ?_
    refine ai (r_aload_n (pc := 58) (k := 1) (by decide +kernel : decode k_P_Text_put.2.1 58 = .ok (.aload_n 1, 1)) rfl rfl) ?_
    obtain ⟨t12, h⟩ := gt_some h
    obtain ⟨g13, h⟩ := gd_some h
    obtain ⟨g14, h⟩ := go_some h
    obtain ⟨m15, hm15, h⟩ := vb_some h
    have hL : PL m15 := by rw [hm15]; exact hL
    have t16 : mT m15 a0 = 11 := by rw [hm15]; exact t8
    have t17 : mT m15 a2 = 36 := by rw [hm15]; exact t9
    have t18 : mT m15 a10 = 36 := by rw [hm15]; exact t12
    refine ai (p_aast (pc := 59) (j := 0) (by decide) hm15 (by decide +kernel : decode k_P_Text_put.2.1 59 = .ok (.aastore, 1)) t12 rfl g13 g14) ?_
    cases h
    exact ⟨r_vret rfl (by decide +kernel : decode k_P_Text_put.2.1 60 = .ok (.return_, 1)), hL⟩
set_option maxRecDepth 100000 in
set_option maxHeartbeats 4000000 in
theorem P_Text_put_run {a0 : Nat} {x1 : Option Nat} {m m' : Mem} {r : Unit} (hL : PL m) (ht : mT m a0 = 11) (h : P_Text_put a0 x1 m = some (r, m')) : Run k_P_Text_put 0 [(0, .ref a0), (1, va_rf x1)] [] m none m' ∧ PL m' := by
  unfold P_Text_put at h
  refine ai (p_aload_n (pc := 0) (k := 0) (by decide +kernel : decode k_P_Text_put.2.1 0 = .ok (.aload_n 0, 1)) rfl rfl) ?_
  obtain ⟨a1, rfl, hha1⟩ := gs_some h
  have h := hha1
  refine ai (p_aload_n (pc := 1) (k := 1) (by decide +kernel : decode k_P_Text_put.2.1 1 = .ok (.aload_n 1, 1)) rfl rfl) ?_
  obtain ⟨t2, h⟩ := gt_some h
  refine ai (r_getI (pc := 2) (by decide +kernel : decode k_P_Text_put.2.1 2 = .ok (.getfield 59, 3)) lg_10_59 (by decide) t2) ?_
  obtain ⟨r3, m4, hr3, h⟩ := bn_some h
  have q5 := P_Text_entryOf_run hL ht hr3
  have hL := q5.2
  refine ai (q_callV (pc := 5) (As := [.int (mI m 258 a1)]) (st := []) (st2 := [.int r3]) (b := a0) rfl rfl (by decide +kernel : decode k_P_Text_put.2.1 5 = .ok (.invokevirtual 60, 3)) lc_10_60 mo_P_Text_entryOf ⟨Nat.le_of_ble_eq_true rfl, Nat.le_of_ble_eq_true rfl⟩ (Nat.le_of_ble_eq_true rfl) (Nat.le_of_ble_eq_true rfl) ht q5.1) ?_
  refine ai (e_istore_n (pc := 8) rfl (by decide +kernel : decode k_P_Text_put.2.1 8 = .ok (.istore_n 2, 1)) rfl (by decide) rfl) ?_
  refine ai (r_iload_n (pc := 9) (k := 0) (by decide +kernel : decode k_P_Text_put.2.1 9 = .ok (.iload_n 2, 1)) rfl rfl) ?_
  refine ai (r_iconst (pc := 10) (by decide +kernel : decode k_P_Text_put.2.1 10 = .ok (.iconst (-1), 1)) ic_m1) ?_
  rcases ite_some h with ⟨c6, h⟩ | ⟨c6, h⟩
  · refine ai (r_icmp_ne_f (pc := 11) 41 (by decide +kernel : decode k_P_Text_put.2.1 11 = .ok (.if_icmp .ne (30), 3)) (by decide) c6) ?_
    refine ai (p_aload_n (pc := 14) (k := 1) (by decide +kernel : decode k_P_Text_put.2.1 14 = .ok (.aload_n 0, 1)) rfl rfl) ?_
    obtain ⟨t7, h⟩ := gt_some h
    refine ai (r_getI (pc := 15) (by decide +kernel : decode k_P_Text_put.2.1 15 = .ok (.getfield 56, 3)) lg_10_56 (by decide) t7) ?_
    refine ai (p_aload_n (pc := 18) (k := 1) (by decide +kernel : decode k_P_Text_put.2.1 18 = .ok (.aload_n 0, 1)) rfl rfl) ?_
    obtain ⟨a8, o9, h⟩ := gs_some h
    refine ai (p_getr (pc := 19) o9 (by decide +kernel : decode k_P_Text_put.2.1 19 = .ok (.getfield 43, 3)) lg_10_43 t7) ?_
    obtain ⟨t10, h⟩ := gt_some h
    refine ai (p_alen (pc := 22) (by decide +kernel : decode k_P_Text_put.2.1 22 = .ok (.arraylength, 1)) (by rw [t10]; decide) rfl rfl) ?_
    rcases ite_some h with ⟨c11, h⟩ | ⟨c11, h⟩
    · refine ai (r_icmp_ge_t (pc := 23) (tgt := 41) (by decide +kernel : decode k_P_Text_put.2.1 23 = .ok (.if_icmp .ge (18), 3)) (by decide) c11) ?_
      exact (ai (r_sub [1, 2, 0] rfl) (P_Text_put_41_run hL t7 h))
    · refine ai (r_icmp_ge_f (pc := 23) 41 (by decide +kernel : decode k_P_Text_put.2.1 23 = .ok (.if_icmp .ge (18), 3)) (by decide) c11) ?_
      refine ai (p_aload_n (pc := 26) (k := 1) (by decide +kernel : decode k_P_Text_put.2.1 26 = .ok (.aload_n 0, 1)) rfl rfl) ?_
      refine ai (r_getI (pc := 27) (by decide +kernel : decode k_P_Text_put.2.1 27 = .ok (.getfield 56, 3)) lg_10_56 (by decide) t7) ?_
      obtain ⟨v12, hv12, h⟩ := vb_some h
      refine ai (e_istore_n (pc := 30) hv12 (by decide +kernel : decode k_P_Text_put.2.1 30 = .ok (.istore_n 2, 1)) rfl (by decide) rfl) ?_
      refine ai (p_aload_n (pc := 31) (k := 1) (by decide +kernel : decode k_P_Text_put.2.1 31 = .ok (.aload_n 0, 1)) rfl rfl) ?_
      refine ai (r_dup (pc := 32) (by decide +kernel : decode k_P_Text_put.2.1 32 = .ok (.dup, 1)) (rfl)) ?_
      refine ai (r_getI (pc := 33) (by decide +kernel : decode k_P_Text_put.2.1 33 = .ok (.getfield 56, 3)) lg_10_56 (by decide) t7) ?_
      refine ai (r_iconst (pc := 36) (by decide +kernel : decode k_P_Text_put.2.1 36 = .ok (.iconst 1, 1)) ic_1) ?_
      refine ai (r_iadd (pc := 37) (by decide +kernel : decode k_P_Text_put.2.1 37 = .ok (.iadd, 1))) ?_
      obtain ⟨m13, hm13, h⟩ := vb_some h
      have hL : PL m13 := by rw [hm13]; exact hL
      have t14 : mT m13 a0 = 11 := by rw [hm13]; exact t7
      have t15 : mT m13 a8 = 36 := by rw [hm13]; exact t10
      refine ai (p_putI (pc := 38) hm13 (by decide +kernel : decode k_P_Text_put.2.1 38 = .ok (.putfield 56, 3)) lp_10_56 t7) ?_
      exact (ai (r_sub [1, 2, 0] rfl) (P_Text_put_41_run hL t14 h))
  · refine ai (r_icmp_ne_t (pc := 11) (tgt := 41) (by decide +kernel : decode k_P_Text_put.2.1 11 = .ok (.if_icmp .ne (30), 3)) (by decide) c6) ?_
    obtain ⟨t16, h⟩ := gt_some h
    exact (ai (r_sub [1, 2, 0] rfl) (P_Text_put_41_run hL t16 h))
set_option maxRecDepth 100000 in
set_option maxHeartbeats 4000000 in
theorem P_Text_drop_25_run {n : Nat} {a0 : Nat} {x3 : Int32} {m m' : Mem} {r : Int32} (hL : PL m) (ht : mT m a0 = 11) (h : P_Text_drop_25 n a0 x3 m = some (r, m')) : Run k_P_Text_drop 25 [(0, .ref a0), (3, .int x3)] [] m (some (.int r)) m' ∧ PL m' := by
  induction n generalizing a0 x3 m r m' with
  | zero => exact absurd h (by simp [P_Text_drop_25])
  | succ n ih =>
    rw [P_Text_drop_25.eq_2] at h
    refine ai (r_iload_n (pc := 25) (k := 1) (by decide +kernel : decode k_P_Text_drop.2.1 25 = .ok (.iload_n 3, 1)) rfl rfl) ?_
    refine ai (p_aload_n (pc := 26) (k := 0) (by decide +kernel : decode k_P_Text_drop.2.1 26 = .ok (.aload_n 0, 1)) rfl rfl) ?_
    refine ai (r_getI (pc := 27) (by decide +kernel : decode k_P_Text_drop.2.1 27 = .ok (.getfield 56, 3)) lg_10_56 (by decide) ht) ?_
    rcases ite_some h with ⟨c1, h⟩ | ⟨c1, h⟩
    · refine ai (r_icmp_ge_t (pc := 30) (tgt := 67) (by decide +kernel : decode k_P_Text_drop.2.1 30 = .ok (.if_icmp .ge (37), 3)) (by decide) c1) ?_
      refine ai (r_iconst (pc := 67) (by decide +kernel : decode k_P_Text_drop.2.1 67 = .ok (.iconst 1, 1)) ic_1) ?_
      cases h
      exact ⟨r_zret (by decide) rfl (by decide +kernel : decode k_P_Text_drop.2.1 68 = .ok (.ireturn, 1)), hL⟩
    · refine ai (r_icmp_ge_f (pc := 30) 67 (by decide +kernel : decode k_P_Text_drop.2.1 30 = .ok (.if_icmp .ge (37), 3)) (by decide) c1) ?_
      refine ai (p_aload_n (pc := 33) (k := 0) (by decide +kernel : decode k_P_Text_drop.2.1 33 = .ok (.aload_n 0, 1)) rfl rfl) ?_
      obtain ⟨a2, o3, h⟩ := gs_some h
      refine ai (p_getr (pc := 34) o3 (by decide +kernel : decode k_P_Text_drop.2.1 34 = .ok (.getfield 43, 3)) lg_10_43 ht) ?_
      refine ai (r_iload_n (pc := 37) (k := 1) (by decide +kernel : decode k_P_Text_drop.2.1 37 = .ok (.iload_n 3, 1)) rfl rfl) ?_
      refine ai (p_aload_n (pc := 38) (k := 0) (by decide +kernel : decode k_P_Text_drop.2.1 38 = .ok (.aload_n 0, 1)) rfl rfl) ?_
      obtain ⟨a4, o5, h⟩ := gs_some h
      refine ai (p_getr (pc := 39) o5 (by decide +kernel : decode k_P_Text_drop.2.1 39 = .ok (.getfield 43, 3)) lg_10_43 ht) ?_
      refine ai (r_iload_n (pc := 42) (k := 1) (by decide +kernel : decode k_P_Text_drop.2.1 42 = .ok (.iload_n 3, 1)) rfl rfl) ?_
      refine ai (r_iconst (pc := 43) (by decide +kernel : decode k_P_Text_drop.2.1 43 = .ok (.iconst 1, 1)) ic_1) ?_
      refine ai (r_iadd (pc := 44) (by decide +kernel : decode k_P_Text_drop.2.1 44 = .ok (.iadd, 1))) ?_
      obtain ⟨t6, h⟩ := gt_some h
      obtain ⟨g7, h⟩ := gd_some h
      refine ai (p_aald (pc := 45) (j := 0) (by decide) (by decide +kernel : decode k_P_Text_drop.2.1 45 = .ok (.aaload, 1)) t6 rfl g7) ?_
      obtain ⟨t8, h⟩ := gt_some h
      obtain ⟨g9, h⟩ := gd_some h
      obtain ⟨g10, h⟩ := go_some h
      obtain ⟨m11, hm11, h⟩ := vb_some h
      have hL : PL m11 := by rw [hm11]; exact hL
      have t12 : mT m11 a0 = 11 := by rw [hm11]; exact ht
      have t13 : mT m11 a4 = 36 := by rw [hm11]; exact t6
      have t14 : mT m11 a2 = 36 := by rw [hm11]; exact t8
      refine ai (p_aast (pc := 46) (j := 0) (by decide) hm11 (by decide +kernel : decode k_P_Text_drop.2.1 46 = .ok (.aastore, 1)) t8 rfl g9 g10) ?_
      refine ai (p_aload_n (pc := 47) (k := 0) (by decide +kernel : decode k_P_Text_drop.2.1 47 = .ok (.aload_n 0, 1)) rfl rfl) ?_
      obtain ⟨a15, o16, h⟩ := gs_some h
      refine ai (p_getr (pc := 48) o16 (by decide +kernel : decode k_P_Text_drop.2.1 48 = .ok (.getfield 46, 3)) lg_10_46 t12) ?_
      refine ai (r_iload_n (pc := 51) (k := 1) (by decide +kernel : decode k_P_Text_drop.2.1 51 = .ok (.iload_n 3, 1)) rfl rfl) ?_
      refine ai (p_aload_n (pc := 52) (k := 0) (by decide +kernel : decode k_P_Text_drop.2.1 52 = .ok (.aload_n 0, 1)) rfl rfl) ?_
      obtain ⟨a17, o18, h⟩ := gs_some h
      refine ai (p_getr (pc := 53) o18 (by decide +kernel : decode k_P_Text_drop.2.1 53 = .ok (.getfield 46, 3)) lg_10_46 t12) ?_
      refine ai (r_iload_n (pc := 56) (k := 1) (by decide +kernel : decode k_P_Text_drop.2.1 56 = .ok (.iload_n 3, 1)) rfl rfl) ?_
      refine ai (r_iconst (pc := 57) (by decide +kernel : decode k_P_Text_drop.2.1 57 = .ok (.iconst 1, 1)) ic_1) ?_
      refine ai (r_iadd (pc := 58) (by decide +kernel : decode k_P_Text_drop.2.1 58 = .ok (.iadd, 1))) ?_
      obtain ⟨t19, h⟩ := gt_some h
      obtain ⟨g20, h⟩ := gd_some h
      refine ai (p_aald (pc := 59) (j := 0) (by decide) (by decide +kernel : decode k_P_Text_drop.2.1 59 = .ok (.aaload, 1)) t19 rfl g20) ?_
      obtain ⟨t21, h⟩ := gt_some h
      obtain ⟨g22, h⟩ := gd_some h
      obtain ⟨g23, h⟩ := go_some h
      obtain ⟨m24, hm24, h⟩ := vb_some h
      have hL : PL m24 := by rw [hm24]; exact hL
      have t25 : mT m24 a0 = 11 := by rw [hm24]; exact t12
      have t26 : mT m24 a4 = 36 := by rw [hm24]; exact t13
      have t27 : mT m24 a2 = 36 := by rw [hm24]; exact t14
      have t28 : mT m24 a17 = 36 := by rw [hm24]; exact t19
      have t29 : mT m24 a15 = 36 := by rw [hm24]; exact t21
      refine ai (p_aast (pc := 60) (j := 0) (by decide) hm24 (by decide +kernel : decode k_P_Text_drop.2.1 60 = .ok (.aastore, 1)) t21 rfl g22 g23) ?_
      obtain ⟨v30, hv30, h⟩ := vb_some h
      refine ai (e_iinc (pc := 61) (k := 1) hv30 ic_1 (by decide +kernel : decode k_P_Text_drop.2.1 61 = .ok (.iinc 3 (1), 3)) rfl (by decide) rfl) ?_
      refine ai (r_goto (pc := 64) (tgt := 25) (by decide +kernel : decode k_P_Text_drop.2.1 64 = .ok (.goto (-39), 3)) (by decide)) ?_
      exact (ai (r_sub [1, 0] rfl) (ih hL t25 h))
set_option maxRecDepth 100000 in
set_option maxHeartbeats 4000000 in
theorem P_Text_drop_run {a0 : Nat} {x1 : Int32} {m m' : Mem} {r : Int32} (hL : PL m) (ht : mT m a0 = 11) (h : P_Text_drop a0 x1 m = some (r, m')) : Run k_P_Text_drop 0 [(0, .ref a0), (1, .int x1)] [] m (some (.int r)) m' ∧ PL m' := by
  unfold P_Text_drop at h
  refine ai (p_aload_n (pc := 0) (k := 0) (by decide +kernel : decode k_P_Text_drop.2.1 0 = .ok (.aload_n 0, 1)) rfl rfl) ?_
  refine ai (r_iload_n (pc := 1) (k := 1) (by decide +kernel : decode k_P_Text_drop.2.1 1 = .ok (.iload_n 1, 1)) rfl rfl) ?_
  obtain ⟨r1, m2, hr1, h⟩ := bn_some h
  have q3 := P_Text_entryOf_run hL ht hr1
  have hL := q3.2
  refine ai (q_callV (pc := 2) (As := [.int x1]) (st := []) (st2 := [.int r1]) (b := a0) rfl rfl (by decide +kernel : decode k_P_Text_drop.2.1 2 = .ok (.invokevirtual 60, 3)) lc_10_60 mo_P_Text_entryOf ⟨Nat.le_of_ble_eq_true rfl, Nat.le_of_ble_eq_true rfl⟩ (Nat.le_of_ble_eq_true rfl) (Nat.le_of_ble_eq_true rfl) ht q3.1) ?_
  refine ai (e_istore_n (pc := 5) rfl (by decide +kernel : decode k_P_Text_drop.2.1 5 = .ok (.istore_n 2, 1)) rfl (by decide) rfl) ?_
  refine ai (r_iload_n (pc := 6) (k := 0) (by decide +kernel : decode k_P_Text_drop.2.1 6 = .ok (.iload_n 2, 1)) rfl rfl) ?_
  refine ai (r_iconst (pc := 7) (by decide +kernel : decode k_P_Text_drop.2.1 7 = .ok (.iconst (-1), 1)) ic_m1) ?_
  rcases ite_some h with ⟨c4, h⟩ | ⟨c4, h⟩
  · refine ai (r_icmp_ne_f (pc := 8) 13 (by decide +kernel : decode k_P_Text_drop.2.1 8 = .ok (.if_icmp .ne (5), 3)) (by decide) c4) ?_
    refine ai (r_iconst (pc := 11) (by decide +kernel : decode k_P_Text_drop.2.1 11 = .ok (.iconst 0, 1)) ic_0) ?_
    cases h
    exact ⟨r_zret (by decide) rfl (by decide +kernel : decode k_P_Text_drop.2.1 12 = .ok (.ireturn, 1)), hL⟩
  · refine ai (r_icmp_ne_t (pc := 8) (tgt := 13) (by decide +kernel : decode k_P_Text_drop.2.1 8 = .ok (.if_icmp .ne (5), 3)) (by decide) c4) ?_
    refine ai (p_aload_n (pc := 13) (k := 1) (by decide +kernel : decode k_P_Text_drop.2.1 13 = .ok (.aload_n 0, 1)) rfl rfl) ?_
    refine ai (r_dup (pc := 14) (by decide +kernel : decode k_P_Text_drop.2.1 14 = .ok (.dup, 1)) (rfl)) ?_
    obtain ⟨t5, h⟩ := gt_some h
    refine ai (r_getI (pc := 15) (by decide +kernel : decode k_P_Text_drop.2.1 15 = .ok (.getfield 56, 3)) lg_10_56 (by decide) t5) ?_
    refine ai (r_iconst (pc := 18) (by decide +kernel : decode k_P_Text_drop.2.1 18 = .ok (.iconst 1, 1)) ic_1) ?_
    refine ai (r_isub (pc := 19) (by decide +kernel : decode k_P_Text_drop.2.1 19 = .ok (.isub, 1))) ?_
    obtain ⟨m6, hm6, h⟩ := vb_some h
    have hL : PL m6 := by rw [hm6]; exact hL
    have t7 : mT m6 a0 = 11 := by rw [hm6]; exact t5
    refine ai (p_putI (pc := 20) hm6 (by decide +kernel : decode k_P_Text_drop.2.1 20 = .ok (.putfield 56, 3)) lp_10_56 t5) ?_
    refine ai (r_iload_n (pc := 23) (k := 0) (by decide +kernel : decode k_P_Text_drop.2.1 23 = .ok (.iload_n 2, 1)) rfl rfl) ?_
    refine ai (e_istore_n (pc := 24) rfl (by decide +kernel : decode k_P_Text_drop.2.1 24 = .ok (.istore_n 3, 1)) rfl (by decide) rfl) ?_
    exact (ai (r_sub [2, 0] rfl) (P_Text_drop_25_run hL t7 h))
set_option maxRecDepth 100000 in
set_option maxHeartbeats 4000000 in
theorem P_Text_classEntry_run {a0 : Nat} {x1 : Int32} {m m' : Mem} {r : Int32} (hL : PL m) (ht : mT m a0 = 11) (h : P_Text_classEntry a0 x1 m = some (r, m')) : Run k_P_Text_classEntry 0 [(0, .ref a0), (1, .int x1)] [] m (some (.int r)) m' ∧ PL m' := by
  unfold P_Text_classEntry at h
  refine ai (p_aload_n (pc := 0) (k := 0) (by decide +kernel : decode k_P_Text_classEntry.2.1 0 = .ok (.aload_n 0, 1)) rfl rfl) ?_
  refine ai (r_iload_n (pc := 1) (k := 1) (by decide +kernel : decode k_P_Text_classEntry.2.1 1 = .ok (.iload_n 1, 1)) rfl rfl) ?_
  obtain ⟨r1, m2, hr1, h⟩ := bn_some h
  have q3 := P_Text_entryOf_run hL ht hr1
  have hL := q3.2
  refine ai (q_callV (pc := 2) (As := [.int x1]) (st := []) (st2 := [.int r1]) (b := a0) rfl rfl (by decide +kernel : decode k_P_Text_classEntry.2.1 2 = .ok (.invokevirtual 60, 3)) lc_10_60 mo_P_Text_entryOf ⟨Nat.le_of_ble_eq_true rfl, Nat.le_of_ble_eq_true rfl⟩ (Nat.le_of_ble_eq_true rfl) (Nat.le_of_ble_eq_true rfl) ht q3.1) ?_
  refine ai (e_istore_n (pc := 5) rfl (by decide +kernel : decode k_P_Text_classEntry.2.1 5 = .ok (.istore_n 2, 1)) rfl (by decide) rfl) ?_
  refine ai (r_iload_n (pc := 6) (k := 0) (by decide +kernel : decode k_P_Text_classEntry.2.1 6 = .ok (.iload_n 2, 1)) rfl rfl) ?_
  refine ai (r_iconst (pc := 7) (by decide +kernel : decode k_P_Text_classEntry.2.1 7 = .ok (.iconst (-1), 1)) ic_m1) ?_
  rcases ite_some h with ⟨c4, h⟩ | ⟨c4, h⟩
  · refine ai (r_icmp_eq_t (pc := 8) (tgt := 29) (by decide +kernel : decode k_P_Text_classEntry.2.1 8 = .ok (.if_icmp .eq (21), 3)) (by decide) c4) ?_
    refine ai (r_iconst (pc := 29) (by decide +kernel : decode k_P_Text_classEntry.2.1 29 = .ok (.iconst (-1), 1)) ic_m1) ?_
    cases h
    exact ⟨r_iret rfl (by decide +kernel : decode k_P_Text_classEntry.2.1 30 = .ok (.ireturn, 1)), hL⟩
  · refine ai (r_icmp_eq_f (pc := 8) 29 (by decide +kernel : decode k_P_Text_classEntry.2.1 8 = .ok (.if_icmp .eq (21), 3)) (by decide) c4) ?_
    refine ai (p_aload_n (pc := 11) (k := 1) (by decide +kernel : decode k_P_Text_classEntry.2.1 11 = .ok (.aload_n 0, 1)) rfl rfl) ?_
    obtain ⟨t5, h⟩ := gt_some h
    obtain ⟨a6, o7, h⟩ := gs_some h
    refine ai (p_getr (pc := 12) o7 (by decide +kernel : decode k_P_Text_classEntry.2.1 12 = .ok (.getfield 43, 3)) lg_10_43 t5) ?_
    refine ai (r_iload_n (pc := 15) (k := 0) (by decide +kernel : decode k_P_Text_classEntry.2.1 15 = .ok (.iload_n 2, 1)) rfl rfl) ?_
    obtain ⟨t8, h⟩ := gt_some h
    obtain ⟨g9, h⟩ := gd_some h
    obtain ⟨a10, o11, h⟩ := gs_some h
    refine ai (p_aaldr (pc := 16) (j := 0) (by decide) o11 (by decide +kernel : decode k_P_Text_classEntry.2.1 16 = .ok (.aaload, 1)) t8 rfl g9) ?_
    obtain ⟨t12, h⟩ := gt_some h
    refine ai (r_getI (pc := 17) (by decide +kernel : decode k_P_Text_classEntry.2.1 17 = .ok (.getfield 64, 3)) lg_10_64 (by decide) t12) ?_
    refine ai (r_bipush (pc := 20) (by decide +kernel : decode k_P_Text_classEntry.2.1 20 = .ok (.bipush (34), 2)) (by decide : _ = (34 : Int32))) ?_
    rcases ite_some h with ⟨c13, h⟩ | ⟨c13, h⟩
    · refine ai (r_icmp_ne_f (pc := 22) 29 (by decide +kernel : decode k_P_Text_classEntry.2.1 22 = .ok (.if_icmp .ne (7), 3)) (by decide) c13) ?_
      refine ai (r_iload_n (pc := 25) (k := 0) (by decide +kernel : decode k_P_Text_classEntry.2.1 25 = .ok (.iload_n 2, 1)) rfl rfl) ?_
      refine ai (r_goto (pc := 26) (tgt := 30) (by decide +kernel : decode k_P_Text_classEntry.2.1 26 = .ok (.goto (4), 3)) (by decide)) ?_
      cases h
      exact ⟨r_iret rfl (by decide +kernel : decode k_P_Text_classEntry.2.1 30 = .ok (.ireturn, 1)), hL⟩
    · refine ai (r_icmp_ne_t (pc := 22) (tgt := 29) (by decide +kernel : decode k_P_Text_classEntry.2.1 22 = .ok (.if_icmp .ne (7), 3)) (by decide) c13) ?_
      refine ai (r_iconst (pc := 29) (by decide +kernel : decode k_P_Text_classEntry.2.1 29 = .ok (.iconst (-1), 1)) ic_m1) ?_
      cases h
      exact ⟨r_iret rfl (by decide +kernel : decode k_P_Text_classEntry.2.1 30 = .ok (.ireturn, 1)), hL⟩
set_option maxRecDepth 100000 in
set_option maxHeartbeats 4000000 in
theorem P_Formula_operand_run {x0 : Int32} {x1 : Int32} {x2 : Option Nat} {x3 : Int32} {m m' : Mem} {r : Int32} (hL : PL m) (h : P_Formula_operand x0 x1 x2 x3 m = some (r, m')) : Run k_P_Formula_operand 0 [(0, .int x0), (1, .int x1), (2, va_rf x2), (3, .int x3)] [] m (some (.int r)) m' ∧ PL m' := by
  unfold P_Formula_operand at h
  refine ai (r_iload_n (pc := 0) (k := 0) (by decide +kernel : decode k_P_Formula_operand.2.1 0 = .ok (.iload_n 0, 1)) rfl rfl) ?_
  refine ai (r_iconst (pc := 1) (by decide +kernel : decode k_P_Formula_operand.2.1 1 = .ok (.iconst 3, 1)) ic_3) ?_
  rcases ite_some h with ⟨c1, h⟩ | ⟨c1, h⟩
  · refine ai (r_icmp_ne_f (pc := 2) 7 (by decide +kernel : decode k_P_Formula_operand.2.1 2 = .ok (.if_icmp .ne (5), 3)) (by decide) c1) ?_
    refine ai (r_iload_n (pc := 5) (k := 1) (by decide +kernel : decode k_P_Formula_operand.2.1 5 = .ok (.iload_n 1, 1)) rfl rfl) ?_
    cases h
    exact ⟨r_iret rfl (by decide +kernel : decode k_P_Formula_operand.2.1 6 = .ok (.ireturn, 1)), hL⟩
  · refine ai (r_icmp_ne_t (pc := 2) (tgt := 7) (by decide +kernel : decode k_P_Formula_operand.2.1 2 = .ok (.if_icmp .ne (5), 3)) (by decide) c1) ?_
    refine ai (r_iload_n (pc := 7) (k := 0) (by decide +kernel : decode k_P_Formula_operand.2.1 7 = .ok (.iload_n 0, 1)) rfl rfl) ?_
    refine ai (r_bipush (pc := 8) (by decide +kernel : decode k_P_Formula_operand.2.1 8 = .ok (.bipush (59), 2)) (by decide : _ = (59 : Int32))) ?_
    rcases ite_some h with ⟨c2, h⟩ | ⟨c2, h⟩
    · refine ai (r_icmp_ne_f (pc := 10) 19 (by decide +kernel : decode k_P_Formula_operand.2.1 10 = .ok (.if_icmp .ne (9), 3)) (by decide) c2) ?_
      refine ai (r_iload_n (pc := 13) (k := 3) (by decide +kernel : decode k_P_Formula_operand.2.1 13 = .ok (.iload_n 3, 1)) rfl rfl) ?_
      refine ai (r_iload_n (pc := 14) (k := 1) (by decide +kernel : decode k_P_Formula_operand.2.1 14 = .ok (.iload_n 1, 1)) rfl rfl) ?_
      refine ai (r_ishr (pc := 15) (by decide +kernel : decode k_P_Formula_operand.2.1 15 = .ok (.ishr, 1))) ?_
      refine ai (r_iconst (pc := 16) (by decide +kernel : decode k_P_Formula_operand.2.1 16 = .ok (.iconst 1, 1)) ic_1) ?_
      refine ai (r_iand (pc := 17) (by decide +kernel : decode k_P_Formula_operand.2.1 17 = .ok (.iand, 1))) ?_
      cases h
      exact ⟨r_iret rfl (by decide +kernel : decode k_P_Formula_operand.2.1 18 = .ok (.ireturn, 1)), hL⟩
    · refine ai (r_icmp_ne_t (pc := 10) (tgt := 19) (by decide +kernel : decode k_P_Formula_operand.2.1 10 = .ok (.if_icmp .ne (9), 3)) (by decide) c2) ?_
      refine ai (r_iload_n (pc := 19) (k := 0) (by decide +kernel : decode k_P_Formula_operand.2.1 19 = .ok (.iload_n 0, 1)) rfl rfl) ?_
      refine ai (r_bipush (pc := 20) (by decide +kernel : decode k_P_Formula_operand.2.1 20 = .ok (.bipush (20), 2)) (by decide : _ = (20 : Int32))) ?_
      refine ai (r_isub (pc := 22) (by decide +kernel : decode k_P_Formula_operand.2.1 22 = .ok (.isub, 1))) ?_
      obtain ⟨v3, hv3, h⟩ := vb_some h
      refine ai (e_istore (pc := 23) hv3 (by decide +kernel : decode k_P_Formula_operand.2.1 23 = .ok (.istore 4, 2)) (by decide) rfl) ?_
      refine ai (r_iload (pc := 25) (k := 0) (by decide +kernel : decode k_P_Formula_operand.2.1 25 = .ok (.iload 4, 2)) rfl) ?_
      rcases ite_some h with ⟨c4, h⟩ | ⟨c4, h⟩
      · refine ai (r_if_lt_t (pc := 27) (tgt := 44) (by decide +kernel : decode k_P_Formula_operand.2.1 27 = .ok (.ifCond .lt (17), 3)) (by decide) c4) ?_
        refine ai (r_iconst (pc := 44) (by decide +kernel : decode k_P_Formula_operand.2.1 44 = .ok (.iconst 0, 1)) ic_0) ?_
        cases h
        exact ⟨r_iret rfl (by decide +kernel : decode k_P_Formula_operand.2.1 45 = .ok (.ireturn, 1)), hL⟩
      · refine ai (r_if_lt_f (pc := 27) 44 (by decide +kernel : decode k_P_Formula_operand.2.1 27 = .ok (.ifCond .lt (17), 3)) (by decide) c4) ?_
        refine ai (r_iload (pc := 30) (k := 0) (by decide +kernel : decode k_P_Formula_operand.2.1 30 = .ok (.iload 4, 2)) rfl) ?_
        obtain ⟨a5, rfl, hha5⟩ := gs_some h
        have h := hha5
        refine ai (p_aload_n (pc := 32) (k := 3) (by decide +kernel : decode k_P_Formula_operand.2.1 32 = .ok (.aload_n 2, 1)) rfl rfl) ?_
        obtain ⟨t6, h⟩ := gt_some h
        refine ai (p_alen (pc := 33) (by decide +kernel : decode k_P_Formula_operand.2.1 33 = .ok (.arraylength, 1)) (by rw [t6]; decide) rfl rfl) ?_
        rcases ite_some h with ⟨c7, h⟩ | ⟨c7, h⟩
        · refine ai (r_icmp_ge_t (pc := 34) (tgt := 44) (by decide +kernel : decode k_P_Formula_operand.2.1 34 = .ok (.if_icmp .ge (10), 3)) (by decide) c7) ?_
          refine ai (r_iconst (pc := 44) (by decide +kernel : decode k_P_Formula_operand.2.1 44 = .ok (.iconst 0, 1)) ic_0) ?_
          cases h
          exact ⟨r_iret rfl (by decide +kernel : decode k_P_Formula_operand.2.1 45 = .ok (.ireturn, 1)), hL⟩
        · refine ai (r_icmp_ge_f (pc := 34) 44 (by decide +kernel : decode k_P_Formula_operand.2.1 34 = .ok (.if_icmp .ge (10), 3)) (by decide) c7) ?_
          refine ai (p_aload_n (pc := 37) (k := 3) (by decide +kernel : decode k_P_Formula_operand.2.1 37 = .ok (.aload_n 2, 1)) rfl rfl) ?_
          refine ai (r_iload (pc := 38) (k := 0) (by decide +kernel : decode k_P_Formula_operand.2.1 38 = .ok (.iload 4, 2)) rfl) ?_
          obtain ⟨g8, h⟩ := gd_some h
          refine ai (p_iald (pc := 40) (by decide +kernel : decode k_P_Formula_operand.2.1 40 = .ok (.iaload, 1)) t6 rfl g8) ?_
          refine ai (r_goto (pc := 41) (tgt := 45) (by decide +kernel : decode k_P_Formula_operand.2.1 41 = .ok (.goto (4), 3)) (by decide)) ?_
          cases h
          exact ⟨r_iret rfl (by decide +kernel : decode k_P_Formula_operand.2.1 45 = .ok (.ireturn, 1)), hL⟩
set_option maxRecDepth 100000 in
set_option maxHeartbeats 4000000 in
theorem P_Formula_result_257_run {k9 : Option Nat → Option Nat → Int32 → Int32 → Int32 → Int32 → Mem → Option (Int32 × Mem)} {x1 : Option Nat} {x2 : Option Nat} {x3 : Int32} {x4 : Int32} {x5 : Int32} {x6 : Int32} {m m' : Mem} {r : Int32} (hk9 : ∀ (x1 : Option Nat) (x2 : Option Nat) (x3 : Int32) (x4 : Int32) (x5 : Int32) (x6 : Int32) (m : Mem) (r : Int32) (m' : Mem), PL m → k9 x1 x2 x3 x4 x5 x6 m = some (r, m') → Run k_P_Formula_result 9 [(0, .ref 1), (1, va_rf x1), (2, va_rf x2), (3, .int x3), (4, .int x4), (5, .int x5), (6, .int x6)] [] m (some (.int r)) m' ∧ PL m') (hL : PL m) (h : P_Formula_result_257 k9 x1 x2 x3 x4 x5 x6 m = some (r, m')) : Run k_P_Formula_result 257 [(0, .ref 1), (1, va_rf x1), (2, va_rf x2), (3, .int x3), (4, .int x4), (5, .int x5), (6, .int x6)] [] m (some (.int r)) m' ∧ PL m' := by
  unfold P_Formula_result_257 at h
  obtain ⟨v1, hv1, h⟩ := vb_some h
  refine ai (e_iinc (pc := 257) (k := 6) hv1 ic_1 (by decide +kernel : decode k_P_Formula_result.2.1 257 = .ok (.iinc 6 (1), 3)) rfl (by decide) rfl) ?_
  refine ai (r_goto (pc := 260) (tgt := 9) (by decide +kernel : decode k_P_Formula_result.2.1 260 = .ok (.goto (-251), 3)) (by decide)) ?_
  exact (ai (r_sub [1, 2, 3, 4, 5, 6, 0] rfl) (hk9 x1 x2 x3 x4 x5 v1 m _ _ hL h))
set_option maxRecDepth 100000 in
set_option maxHeartbeats 4000000 in
theorem P_Formula_result_53_run {k9 : Option Nat → Option Nat → Int32 → Int32 → Int32 → Int32 → Mem → Option (Int32 × Mem)} {x1 : Option Nat} {x2 : Option Nat} {x3 : Int32} {x4 : Int32} {x5 : Int32} {x6 : Int32} {x7 : Int32} {m m' : Mem} {r : Int32} (hk9 : ∀ (x1 : Option Nat) (x2 : Option Nat) (x3 : Int32) (x4 : Int32) (x5 : Int32) (x6 : Int32) (m : Mem) (r : Int32) (m' : Mem), PL m → k9 x1 x2 x3 x4 x5 x6 m = some (r, m') → Run k_P_Formula_result 9 [(0, .ref 1), (1, va_rf x1), (2, va_rf x2), (3, .int x3), (4, .int x4), (5, .int x5), (6, .int x6)] [] m (some (.int r)) m' ∧ PL m') (hL : PL m) (h : P_Formula_result_53 k9 x1 x2 x3 x4 x5 x6 x7 m = some (r, m')) : Run k_P_Formula_result 53 [(0, .ref 1), (1, va_rf x1), (2, va_rf x2), (3, .int x3), (4, .int x4), (5, .int x5), (6, .int x6), (7, .int x7)] [] m (some (.int r)) m' ∧ PL m' := by
  unfold P_Formula_result_53 at h
  refine ai (r_iload (pc := 53) (k := 4) (by decide +kernel : decode k_P_Formula_result.2.1 53 = .ok (.iload 4, 2)) rfl) ?_
  refine ai (p_aload_n (pc := 55) (k := 0) (by decide +kernel : decode k_P_Formula_result.2.1 55 = .ok (.aload_n 0, 1)) rfl rfl) ?_
  refine ai (p_getr (pc := 56) (PR_137_1 hL) (by decide +kernel : decode k_P_Formula_result.2.1 56 = .ok (.getfield 18, 3)) lg_1_18 (PC_1 hL).1) ?_
  refine ai (p_alen (pc := 59) (x := 64) (by decide +kernel : decode k_P_Formula_result.2.1 59 = .ok (.arraylength, 1)) (by rw [(PC_4 hL).1]; decide) (PC_4 hL).2 (by decide)) ?_
  rcases ite_some h with ⟨c1, h⟩ | ⟨c1, h⟩
  · refine ai (r_icmp_ge_t (pc := 60) (tgt := 257) (by decide +kernel : decode k_P_Formula_result.2.1 60 = .ok (.if_icmp .ge (197), 3)) (by decide) c1) ?_
    exact (ai (r_sub [0, 1, 2, 3, 4, 5, 6] rfl) (P_Formula_result_257_run hk9 hL h))
  · refine ai (r_icmp_ge_f (pc := 60) 257 (by decide +kernel : decode k_P_Formula_result.2.1 60 = .ok (.if_icmp .ge (197), 3)) (by decide) c1) ?_
    refine ai (p_aload_n (pc := 63) (k := 0) (by decide +kernel : decode k_P_Formula_result.2.1 63 = .ok (.aload_n 0, 1)) rfl rfl) ?_
    refine ai (p_getr (pc := 64) (PR_137_1 hL) (by decide +kernel : decode k_P_Formula_result.2.1 64 = .ok (.getfield 18, 3)) lg_1_18 (PC_1 hL).1) ?_
    refine ai (r_iload (pc := 67) (k := 4) (by decide +kernel : decode k_P_Formula_result.2.1 67 = .ok (.iload 4, 2)) rfl) ?_
    refine ai (r_iload (pc := 69) (k := 7) (by decide +kernel : decode k_P_Formula_result.2.1 69 = .ok (.iload 7, 2)) rfl) ?_
    obtain ⟨a2, rfl, hha2⟩ := gs_some h
    have h := hha2
    refine ai (p_aload_n (pc := 71) (k := 1) (by decide +kernel : decode k_P_Formula_result.2.1 71 = .ok (.aload_n 1, 1)) rfl rfl) ?_
    refine ai (r_iload (pc := 72) (k := 6) (by decide +kernel : decode k_P_Formula_result.2.1 72 = .ok (.iload 6, 2)) rfl) ?_
    obtain ⟨t3, h⟩ := gt_some h
    obtain ⟨g4, h⟩ := gd_some h
    refine ai (p_iald (pc := 74) (by decide +kernel : decode k_P_Formula_result.2.1 74 = .ok (.iaload, 1)) t3 rfl g4) ?_
    refine ai (r_sipush (pc := 75) (by decide +kernel : decode k_P_Formula_result.2.1 75 = .ok (.sipush (10000), 3)) (by decide : _ = (10000 : Int32))) ?_
    refine ai (r_irem (pc := 78) (by decide +kernel : decode k_P_Formula_result.2.1 78 = .ok (.irem, 1)) (by decide)) ?_
    refine ai (r_aload_n (pc := 79) (k := 2) (by decide +kernel : decode k_P_Formula_result.2.1 79 = .ok (.aload_n 2, 1)) rfl rfl) ?_
    refine ai (r_iload_n (pc := 80) (k := 3) (by decide +kernel : decode k_P_Formula_result.2.1 80 = .ok (.iload_n 3, 1)) rfl rfl) ?_
    obtain ⟨r5, m6, hr5, h⟩ := bn_some h
    have q7 := P_Formula_operand_run hL hr5
    have hL := q7.2
    refine ai (q_callS (pc := 81) (As := [.int x7, .int ((aI m a2 (ix x6)) - (aI m a2 (ix x6)) / 10000 * 10000), va_rf x2, .int x3]) (st := [.int x4, .ref 4]) (st2 := [.int r5, .int x4, .ref 4]) (by simp [lv_args, vrc, vrs, cti, ctr, ctl, ctn, cta]) rfl (by decide +kernel : decode k_P_Formula_result.2.1 81 = .ok (.invokestatic 79, 3)) lc_1_79 mo_P_Formula_operand ⟨Nat.le_of_ble_eq_true rfl, Nat.le_of_ble_eq_true rfl⟩ (by simp [lg_sl, vrc, vrs, cti, ctr, ctl, ctn, cta, k_P_Formula_operand]) (Nat.le_of_ble_eq_true rfl) q7.1) ?_
    obtain ⟨g8, h⟩ := gd_some h
    have c9 := (PC_4 hL).1
    have c10 := (PC_4 hL).2
    obtain ⟨m11, hm11, h⟩ := vb_some h
    have hL : PL m11 := by rw [hm11]; exact hL
    refine ai (p_iast (pc := 84) hm11 (by decide +kernel : decode k_P_Formula_result.2.1 84 = .ok (.iastore, 1)) c9 c10 g8) ?_
    obtain ⟨v12, hv12, h⟩ := vb_some h
    refine ai (e_iinc (pc := 85) (k := 4) hv12 ic_1 (by decide +kernel : decode k_P_Formula_result.2.1 85 = .ok (.iinc 4 (1), 3)) rfl (by decide) rfl) ?_
    refine ai (r_goto (pc := 88) (tgt := 257) (by decide +kernel : decode k_P_Formula_result.2.1 88 = .ok (.goto (169), 3)) (by decide)) ?_
    exact (ai (r_sub [1, 2, 3, 4, 0, 5, 6] rfl) (P_Formula_result_257_run hk9 hL h))
set_option maxRecDepth 100000 in
set_option maxHeartbeats 4000000 in
theorem P_Formula_result_220_run {k9 : Option Nat → Option Nat → Int32 → Int32 → Int32 → Int32 → Mem → Option (Int32 × Mem)} {x1 : Option Nat} {x2 : Option Nat} {x3 : Int32} {x4 : Int32} {x6 : Int32} {s0 : Int32} {s1 : Int32} {m m' : Mem} {r : Int32} (hk9 : ∀ (x1 : Option Nat) (x2 : Option Nat) (x3 : Int32) (x4 : Int32) (x5 : Int32) (x6 : Int32) (m : Mem) (r : Int32) (m' : Mem), PL m → k9 x1 x2 x3 x4 x5 x6 m = some (r, m') → Run k_P_Formula_result 9 [(0, .ref 1), (1, va_rf x1), (2, va_rf x2), (3, .int x3), (4, .int x4), (5, .int x5), (6, .int x6)] [] m (some (.int r)) m' ∧ PL m') (hL : PL m) (h : P_Formula_result_220 k9 x1 x2 x3 x4 x6 s0 s1 m = some (r, m')) : Run k_P_Formula_result 220 [(0, .ref 1), (1, va_rf x1), (2, va_rf x2), (3, .int x3), (4, .int x4), (6, .int x6)] [.int s0, .int s1, .ref 4] m (some (.int r)) m' ∧ PL m' := by
  unfold P_Formula_result_220 at h
  obtain ⟨g1, h⟩ := gd_some h
  have c2 := (PC_4 hL).1
  have c3 := (PC_4 hL).2
  obtain ⟨m4, hm4, h⟩ := vb_some h
  have hL : PL m4 := by rw [hm4]; exact hL
  refine ai (p_iast (pc := 220) hm4 (by decide +kernel : decode k_P_Formula_result.2.1 220 = .ok (.iastore, 1)) c2 c3 g1) ?_
  refine ai (r_iconst (pc := 221) (by decide +kernel : decode k_P_Formula_result.2.1 221 = .ok (.iconst 0, 1)) ic_0) ?_
  refine ai (e_istore (pc := 222) rfl (by decide +kernel : decode k_P_Formula_result.2.1 222 = .ok (.istore 5, 2)) (by decide) rfl) ?_
  refine ai (r_goto (pc := 224) (tgt := 257) (by decide +kernel : decode k_P_Formula_result.2.1 224 = .ok (.goto (33), 3)) (by decide)) ?_
  exact (ai (r_sub [1, 2, 3, 4, 5, 0, 6] rfl) (P_Formula_result_257_run hk9 hL h))
set_option maxRecDepth 100000 in
set_option maxHeartbeats 4000000 in
theorem P_Formula_result_219_run {k9 : Option Nat → Option Nat → Int32 → Int32 → Int32 → Int32 → Mem → Option (Int32 × Mem)} {x1 : Option Nat} {x2 : Option Nat} {x3 : Int32} {x4 : Int32} {x6 : Int32} {s0 : Int32} {m m' : Mem} {r : Int32} (hk9 : ∀ (x1 : Option Nat) (x2 : Option Nat) (x3 : Int32) (x4 : Int32) (x5 : Int32) (x6 : Int32) (m : Mem) (r : Int32) (m' : Mem), PL m → k9 x1 x2 x3 x4 x5 x6 m = some (r, m') → Run k_P_Formula_result 9 [(0, .ref 1), (1, va_rf x1), (2, va_rf x2), (3, .int x3), (4, .int x4), (5, .int x5), (6, .int x6)] [] m (some (.int r)) m' ∧ PL m') (hL : PL m) (h : P_Formula_result_219 k9 x1 x2 x3 x4 x6 s0 m = some (r, m')) : Run k_P_Formula_result 219 [(0, .ref 1), (1, va_rf x1), (2, va_rf x2), (3, .int x3), (4, .int x4), (6, .int x6)] [.int s0, .ref 4] m (some (.int r)) m' ∧ PL m' := by
  unfold P_Formula_result_219 at h
  refine ai (r_iconst (pc := 219) (by decide +kernel : decode k_P_Formula_result.2.1 219 = .ok (.iconst 0, 1)) ic_0) ?_
  exact (P_Formula_result_220_run hk9 hL h)
set_option maxRecDepth 100000 in
set_option maxHeartbeats 4000000 in
theorem P_Formula_result_227_run {k9 : Option Nat → Option Nat → Int32 → Int32 → Int32 → Int32 → Mem → Option (Int32 × Mem)} {x1 : Option Nat} {x2 : Option Nat} {x3 : Int32} {x4 : Int32} {x5 : Int32} {x6 : Int32} {x7 : Int32} {m m' : Mem} {r : Int32} (hk9 : ∀ (x1 : Option Nat) (x2 : Option Nat) (x3 : Int32) (x4 : Int32) (x5 : Int32) (x6 : Int32) (m : Mem) (r : Int32) (m' : Mem), PL m → k9 x1 x2 x3 x4 x5 x6 m = some (r, m') → Run k_P_Formula_result 9 [(0, .ref 1), (1, va_rf x1), (2, va_rf x2), (3, .int x3), (4, .int x4), (5, .int x5), (6, .int x6)] [] m (some (.int r)) m' ∧ PL m') (hL : PL m) (h : P_Formula_result_227 k9 x1 x2 x3 x4 x5 x6 x7 m = some (r, m')) : Run k_P_Formula_result 227 [(0, .ref 1), (1, va_rf x1), (2, va_rf x2), (3, .int x3), (4, .int x4), (5, .int x5), (6, .int x6), (7, .int x7)] [] m (some (.int r)) m' ∧ PL m' := by
  unfold P_Formula_result_227 at h
  refine ai (p_aload_n (pc := 227) (k := 0) (by decide +kernel : decode k_P_Formula_result.2.1 227 = .ok (.aload_n 0, 1)) rfl rfl) ?_
  refine ai (p_getr (pc := 228) (PR_137_1 hL) (by decide +kernel : decode k_P_Formula_result.2.1 228 = .ok (.getfield 18, 3)) lg_1_18 (PC_1 hL).1) ?_
  refine ai (r_iload (pc := 231) (k := 4) (by decide +kernel : decode k_P_Formula_result.2.1 231 = .ok (.iload 4, 2)) rfl) ?_
  refine ai (r_iconst (pc := 233) (by decide +kernel : decode k_P_Formula_result.2.1 233 = .ok (.iconst 1, 1)) ic_1) ?_
  refine ai (r_isub (pc := 234) (by decide +kernel : decode k_P_Formula_result.2.1 234 = .ok (.isub, 1))) ?_
  refine ai (r_iload (pc := 235) (k := 7) (by decide +kernel : decode k_P_Formula_result.2.1 235 = .ok (.iload 7, 2)) rfl) ?_
  refine ai (p_aload_n (pc := 237) (k := 0) (by decide +kernel : decode k_P_Formula_result.2.1 237 = .ok (.aload_n 0, 1)) rfl rfl) ?_
  refine ai (p_getr (pc := 238) (PR_137_1 hL) (by decide +kernel : decode k_P_Formula_result.2.1 238 = .ok (.getfield 18, 3)) lg_1_18 (PC_1 hL).1) ?_
  refine ai (r_iload (pc := 241) (k := 4) (by decide +kernel : decode k_P_Formula_result.2.1 241 = .ok (.iload 4, 2)) rfl) ?_
  refine ai (r_iconst (pc := 243) (by decide +kernel : decode k_P_Formula_result.2.1 243 = .ok (.iconst 1, 1)) ic_1) ?_
  refine ai (r_isub (pc := 244) (by decide +kernel : decode k_P_Formula_result.2.1 244 = .ok (.isub, 1))) ?_
  obtain ⟨g1, h⟩ := gd_some h
  refine ai (p_iald (pc := 245) (by decide +kernel : decode k_P_Formula_result.2.1 245 = .ok (.iaload, 1)) (PC_4 hL).1 (PC_4 hL).2 g1) ?_
  refine ai (p_aload_n (pc := 246) (k := 0) (by decide +kernel : decode k_P_Formula_result.2.1 246 = .ok (.aload_n 0, 1)) rfl rfl) ?_
  refine ai (p_getr (pc := 247) (PR_137_1 hL) (by decide +kernel : decode k_P_Formula_result.2.1 247 = .ok (.getfield 18, 3)) lg_1_18 (PC_1 hL).1) ?_
  refine ai (r_iload (pc := 250) (k := 4) (by decide +kernel : decode k_P_Formula_result.2.1 250 = .ok (.iload 4, 2)) rfl) ?_
  obtain ⟨g2, h⟩ := gd_some h
  refine ai (p_iald (pc := 252) (by decide +kernel : decode k_P_Formula_result.2.1 252 = .ok (.iaload, 1)) (PC_4 hL).1 (PC_4 hL).2 g2) ?_
  obtain ⟨r3, hr3, h⟩ := bp_some h
  refine ai (q_callS (pc := 253) (As := [.int x7, .int (aI m 4 (ix (x4 - 1))), .int (aI m 4 (ix x4))]) (st := [.int (x4 - 1), .ref 4]) (st2 := [.int r3, .int (x4 - 1), .ref 4]) rfl rfl (by decide +kernel : decode k_P_Formula_result.2.1 253 = .ok (.invokestatic 86, 3)) lc_1_86 mo_P_Formula_joined ⟨Nat.le_of_ble_eq_true rfl, Nat.le_of_ble_eq_true rfl⟩ (Nat.le_of_ble_eq_true rfl) (Nat.le_of_ble_eq_true rfl) (P_Formula_joined_run hr3)) ?_
  obtain ⟨g4, h⟩ := gd_some h
  have c5 := (PC_4 hL).1
  have c6 := (PC_4 hL).2
  obtain ⟨m7, hm7, h⟩ := vb_some h
  have hL : PL m7 := by rw [hm7]; exact hL
  refine ai (p_iast (pc := 256) hm7 (by decide +kernel : decode k_P_Formula_result.2.1 256 = .ok (.iastore, 1)) c5 c6 g4) ?_
  exact (ai (r_sub [0, 1, 2, 3, 4, 5, 6] rfl) (P_Formula_result_257_run hk9 hL h))
set_option maxRecDepth 100000 in
set_option maxHeartbeats 4000000 in
theorem P_Formula_result_162_run {k9 : Option Nat → Option Nat → Int32 → Int32 → Int32 → Int32 → Mem → Option (Int32 × Mem)} {x1 : Option Nat} {x2 : Option Nat} {x3 : Int32} {x4 : Int32} {x6 : Int32} {x7 : Int32} {s0 : Int32} {m m' : Mem} {r : Int32} (hk9 : ∀ (x1 : Option Nat) (x2 : Option Nat) (x3 : Int32) (x4 : Int32) (x5 : Int32) (x6 : Int32) (m : Mem) (r : Int32) (m' : Mem), PL m → k9 x1 x2 x3 x4 x5 x6 m = some (r, m') → Run k_P_Formula_result 9 [(0, .ref 1), (1, va_rf x1), (2, va_rf x2), (3, .int x3), (4, .int x4), (5, .int x5), (6, .int x6)] [] m (some (.int r)) m' ∧ PL m') (hL : PL m) (h : P_Formula_result_162 k9 x1 x2 x3 x4 x6 x7 s0 m = some (r, m')) : Run k_P_Formula_result 162 [(0, .ref 1), (1, va_rf x1), (2, va_rf x2), (3, .int x3), (4, .int x4), (6, .int x6), (7, .int x7)] [.int s0] m (some (.int r)) m' ∧ PL m' := by
  unfold P_Formula_result_162 at h
  refine ai (e_istore (pc := 162) rfl (by decide +kernel : decode k_P_Formula_result.2.1 162 = .ok (.istore 5, 2)) (by decide) rfl) ?_
  refine ai (r_iload (pc := 164) (k := 7) (by decide +kernel : decode k_P_Formula_result.2.1 164 = .ok (.iload 7, 2)) rfl) ?_
  refine ai (r_bipush (pc := 166) (by decide +kernel : decode k_P_Formula_result.2.1 166 = .ok (.bipush (10), 2)) (by decide : _ = (10 : Int32))) ?_
  rcases ite_some h with ⟨c1, h⟩ | ⟨c1, h⟩
  · refine ai (r_icmp_lt_t (pc := 168) (tgt := 227) (by decide +kernel : decode k_P_Formula_result.2.1 168 = .ok (.if_icmp .lt (59), 3)) (by decide) c1) ?_
    exact (ai (r_sub [1, 2, 3, 4, 5, 0, 6, 7] rfl) (P_Formula_result_227_run hk9 hL h))
  · refine ai (r_icmp_lt_f (pc := 168) 227 (by decide +kernel : decode k_P_Formula_result.2.1 168 = .ok (.if_icmp .lt (59), 3)) (by decide) c1) ?_
    refine ai (r_iload (pc := 171) (k := 7) (by decide +kernel : decode k_P_Formula_result.2.1 171 = .ok (.iload 7, 2)) rfl) ?_
    refine ai (r_bipush (pc := 173) (by decide +kernel : decode k_P_Formula_result.2.1 173 = .ok (.bipush (13), 2)) (by decide : _ = (13 : Int32))) ?_
    rcases ite_some h with ⟨c2, h⟩ | ⟨c2, h⟩
    · refine ai (r_icmp_gt_t (pc := 175) (tgt := 227) (by decide +kernel : decode k_P_Formula_result.2.1 175 = .ok (.if_icmp .gt (52), 3)) (by decide) c2) ?_
      exact (ai (r_sub [1, 2, 3, 4, 5, 0, 6, 7] rfl) (P_Formula_result_227_run hk9 hL h))
    · refine ai (r_icmp_gt_f (pc := 175) 227 (by decide +kernel : decode k_P_Formula_result.2.1 175 = .ok (.if_icmp .gt (52), 3)) (by decide) c2) ?_
      refine ai (p_aload_n (pc := 178) (k := 1) (by decide +kernel : decode k_P_Formula_result.2.1 178 = .ok (.aload_n 0, 1)) rfl rfl) ?_
      refine ai (p_getr (pc := 179) (PR_137_1 hL) (by decide +kernel : decode k_P_Formula_result.2.1 179 = .ok (.getfield 18, 3)) lg_1_18 (PC_1 hL).1) ?_
      refine ai (r_iload (pc := 182) (k := 5) (by decide +kernel : decode k_P_Formula_result.2.1 182 = .ok (.iload 4, 2)) rfl) ?_
      refine ai (r_iconst (pc := 184) (by decide +kernel : decode k_P_Formula_result.2.1 184 = .ok (.iconst 1, 1)) ic_1) ?_
      refine ai (r_isub (pc := 185) (by decide +kernel : decode k_P_Formula_result.2.1 185 = .ok (.isub, 1))) ?_
      refine ai (r_iload (pc := 186) (k := 0) (by decide +kernel : decode k_P_Formula_result.2.1 186 = .ok (.iload 5, 2)) rfl) ?_
      rcases ite_some h with ⟨c3, h⟩ | ⟨c3, h⟩
      · refine ai (r_if_ne_f (pc := 188) 219 (by decide +kernel : decode k_P_Formula_result.2.1 188 = .ok (.ifCond .ne (31), 3)) (by decide) c3) ?_
        refine ai (r_iload (pc := 191) (k := 7) (by decide +kernel : decode k_P_Formula_result.2.1 191 = .ok (.iload 7, 2)) rfl) ?_
        refine ai (p_aload_n (pc := 193) (k := 1) (by decide +kernel : decode k_P_Formula_result.2.1 193 = .ok (.aload_n 0, 1)) rfl rfl) ?_
        refine ai (p_getr (pc := 194) (PR_137_1 hL) (by decide +kernel : decode k_P_Formula_result.2.1 194 = .ok (.getfield 18, 3)) lg_1_18 (PC_1 hL).1) ?_
        refine ai (r_iload (pc := 197) (k := 5) (by decide +kernel : decode k_P_Formula_result.2.1 197 = .ok (.iload 4, 2)) rfl) ?_
        refine ai (r_iconst (pc := 199) (by decide +kernel : decode k_P_Formula_result.2.1 199 = .ok (.iconst 1, 1)) ic_1) ?_
        refine ai (r_isub (pc := 200) (by decide +kernel : decode k_P_Formula_result.2.1 200 = .ok (.isub, 1))) ?_
        obtain ⟨g4, h⟩ := gd_some h
        refine ai (p_iald (pc := 201) (by decide +kernel : decode k_P_Formula_result.2.1 201 = .ok (.iaload, 1)) (PC_4 hL).1 (PC_4 hL).2 g4) ?_
        refine ai (p_aload_n (pc := 202) (k := 1) (by decide +kernel : decode k_P_Formula_result.2.1 202 = .ok (.aload_n 0, 1)) rfl rfl) ?_
        refine ai (p_getr (pc := 203) (PR_137_1 hL) (by decide +kernel : decode k_P_Formula_result.2.1 203 = .ok (.getfield 18, 3)) lg_1_18 (PC_1 hL).1) ?_
        refine ai (r_iload (pc := 206) (k := 5) (by decide +kernel : decode k_P_Formula_result.2.1 206 = .ok (.iload 4, 2)) rfl) ?_
        obtain ⟨g5, h⟩ := gd_some h
        refine ai (p_iald (pc := 208) (by decide +kernel : decode k_P_Formula_result.2.1 208 = .ok (.iaload, 1)) (PC_4 hL).1 (PC_4 hL).2 g5) ?_
        obtain ⟨r6, hr6, h⟩ := bp_some h
        refine ai (q_callS (pc := 209) (As := [.int x7, .int (aI m 4 (ix (x4 - 1))), .int (aI m 4 (ix x4))]) (st := [.int (x4 - 1), .ref 4]) (st2 := [.int r6, .int (x4 - 1), .ref 4]) rfl rfl (by decide +kernel : decode k_P_Formula_result.2.1 209 = .ok (.invokestatic 83, 3)) lc_1_83 mo_P_Formula_isSo ⟨Nat.le_of_ble_eq_true rfl, Nat.le_of_ble_eq_true rfl⟩ (Nat.le_of_ble_eq_true rfl) (Nat.le_of_ble_eq_true rfl) (P_Formula_isSo_run hr6)) ?_
        rcases ite_some h with ⟨c7, h⟩ | ⟨c7, h⟩
        · refine ai (r_if_eq_t (pc := 212) (tgt := 219) (by decide +kernel : decode k_P_Formula_result.2.1 212 = .ok (.ifCond .eq (7), 3)) (by decide) c7) ?_
          exact (ai (r_sub [1, 2, 3, 4, 5, 6] rfl) (P_Formula_result_219_run hk9 hL h))
        · refine ai (r_if_eq_f (pc := 212) 219 (by decide +kernel : decode k_P_Formula_result.2.1 212 = .ok (.ifCond .eq (7), 3)) (by decide) c7) ?_
          refine ai (r_iconst (pc := 215) (by decide +kernel : decode k_P_Formula_result.2.1 215 = .ok (.iconst 1, 1)) ic_1) ?_
          refine ai (r_goto (pc := 216) (tgt := 220) (by decide +kernel : decode k_P_Formula_result.2.1 216 = .ok (.goto (4), 3)) (by decide)) ?_
          exact (ai (r_sub [1, 2, 3, 4, 5, 6] rfl) (P_Formula_result_220_run hk9 hL h))
      · refine ai (r_if_ne_t (pc := 188) (tgt := 219) (by decide +kernel : decode k_P_Formula_result.2.1 188 = .ok (.ifCond .ne (31), 3)) (by decide) c3) ?_
        exact (ai (r_sub [1, 2, 3, 4, 5, 6] rfl) (P_Formula_result_219_run hk9 hL h))
set_option maxRecDepth 100000 in
set_option maxHeartbeats 4000000 in
theorem P_Formula_result_157_run {k9 : Option Nat → Option Nat → Int32 → Int32 → Int32 → Int32 → Mem → Option (Int32 × Mem)} {x1 : Option Nat} {x2 : Option Nat} {x3 : Int32} {x4 : Int32} {x6 : Int32} {x7 : Int32} {m m' : Mem} {r : Int32} (hk9 : ∀ (x1 : Option Nat) (x2 : Option Nat) (x3 : Int32) (x4 : Int32) (x5 : Int32) (x6 : Int32) (m : Mem) (r : Int32) (m' : Mem), PL m → k9 x1 x2 x3 x4 x5 x6 m = some (r, m') → Run k_P_Formula_result 9 [(0, .ref 1), (1, va_rf x1), (2, va_rf x2), (3, .int x3), (4, .int x4), (5, .int x5), (6, .int x6)] [] m (some (.int r)) m' ∧ PL m') (hL : PL m) (h : P_Formula_result_157 k9 x1 x2 x3 x4 x6 x7 m = some (r, m')) : Run k_P_Formula_result 157 [(0, .ref 1), (1, va_rf x1), (2, va_rf x2), (3, .int x3), (4, .int x4), (6, .int x6), (7, .int x7)] [] m (some (.int r)) m' ∧ PL m' := by
  unfold P_Formula_result_157 at h
  refine ai (r_iconst (pc := 157) (by decide +kernel : decode k_P_Formula_result.2.1 157 = .ok (.iconst 1, 1)) ic_1) ?_
  refine ai (r_goto (pc := 158) (tgt := 162) (by decide +kernel : decode k_P_Formula_result.2.1 158 = .ok (.goto (4), 3)) (by decide)) ?_
  exact (P_Formula_result_162_run hk9 hL h)
set_option maxRecDepth 100000 in
set_option maxHeartbeats 4000000 in
theorem P_Formula_result_161_run {k9 : Option Nat → Option Nat → Int32 → Int32 → Int32 → Int32 → Mem → Option (Int32 × Mem)} {x1 : Option Nat} {x2 : Option Nat} {x3 : Int32} {x4 : Int32} {x6 : Int32} {x7 : Int32} {m m' : Mem} {r : Int32} (hk9 : ∀ (x1 : Option Nat) (x2 : Option Nat) (x3 : Int32) (x4 : Int32) (x5 : Int32) (x6 : Int32) (m : Mem) (r : Int32) (m' : Mem), PL m → k9 x1 x2 x3 x4 x5 x6 m = some (r, m') → Run k_P_Formula_result 9 [(0, .ref 1), (1, va_rf x1), (2, va_rf x2), (3, .int x3), (4, .int x4), (5, .int x5), (6, .int x6)] [] m (some (.int r)) m' ∧ PL m') (hL : PL m) (h : P_Formula_result_161 k9 x1 x2 x3 x4 x6 x7 m = some (r, m')) : Run k_P_Formula_result 161 [(0, .ref 1), (1, va_rf x1), (2, va_rf x2), (3, .int x3), (4, .int x4), (6, .int x6), (7, .int x7)] [] m (some (.int r)) m' ∧ PL m' := by
  unfold P_Formula_result_161 at h
  refine ai (r_iconst (pc := 161) (by decide +kernel : decode k_P_Formula_result.2.1 161 = .ok (.iconst 0, 1)) ic_0) ?_
  exact (P_Formula_result_162_run hk9 hL h)
set_option maxRecDepth 100000 in
set_option maxHeartbeats 4000000 in
theorem P_Formula_result_46_run {k9 : Option Nat → Option Nat → Int32 → Int32 → Int32 → Int32 → Mem → Option (Int32 × Mem)} {x1 : Option Nat} {x2 : Option Nat} {x3 : Int32} {x4 : Int32} {x5 : Int32} {x6 : Int32} {x7 : Int32} {m m' : Mem} {r : Int32} (hk9 : ∀ (x1 : Option Nat) (x2 : Option Nat) (x3 : Int32) (x4 : Int32) (x5 : Int32) (x6 : Int32) (m : Mem) (r : Int32) (m' : Mem), PL m → k9 x1 x2 x3 x4 x5 x6 m = some (r, m') → Run k_P_Formula_result 9 [(0, .ref 1), (1, va_rf x1), (2, va_rf x2), (3, .int x3), (4, .int x4), (5, .int x5), (6, .int x6)] [] m (some (.int r)) m' ∧ PL m') (hL : PL m) (h : P_Formula_result_46 k9 x1 x2 x3 x4 x5 x6 x7 m = some (r, m')) : Run k_P_Formula_result 46 [(0, .ref 1), (1, va_rf x1), (2, va_rf x2), (3, .int x3), (4, .int x4), (5, .int x5), (6, .int x6), (7, .int x7)] [] m (some (.int r)) m' ∧ PL m' := by
  unfold P_Formula_result_46 at h
  refine ai (r_iload (pc := 46) (k := 7) (by decide +kernel : decode k_P_Formula_result.2.1 46 = .ok (.iload 7, 2)) rfl) ?_
  refine ai (r_bipush (pc := 48) (by decide +kernel : decode k_P_Formula_result.2.1 48 = .ok (.bipush (59), 2)) (by decide : _ = (59 : Int32))) ?_
  rcases ite_some h with ⟨c1, h⟩ | ⟨c1, h⟩
  · refine ai (r_icmp_ne_f (pc := 50) 91 (by decide +kernel : decode k_P_Formula_result.2.1 50 = .ok (.if_icmp .ne (41), 3)) (by decide) c1) ?_
    exact (P_Formula_result_53_run hk9 hL h)
  · refine ai (r_icmp_ne_t (pc := 50) (tgt := 91) (by decide +kernel : decode k_P_Formula_result.2.1 50 = .ok (.if_icmp .ne (41), 3)) (by decide) c1) ?_
    refine ai (r_iload (pc := 91) (k := 7) (by decide +kernel : decode k_P_Formula_result.2.1 91 = .ok (.iload 7, 2)) rfl) ?_
    refine ai (r_bipush (pc := 93) (by decide +kernel : decode k_P_Formula_result.2.1 93 = .ok (.bipush (58), 2)) (by decide : _ = (58 : Int32))) ?_
    rcases ite_some h with ⟨c2, h⟩ | ⟨c2, h⟩
    · refine ai (r_icmp_ne_f (pc := 95) 126 (by decide +kernel : decode k_P_Formula_result.2.1 95 = .ok (.if_icmp .ne (31), 3)) (by decide) c2) ?_
      refine ai (r_iload (pc := 98) (k := 4) (by decide +kernel : decode k_P_Formula_result.2.1 98 = .ok (.iload 4, 2)) rfl) ?_
      rcases ite_some h with ⟨c3, h⟩ | ⟨c3, h⟩
      · refine ai (r_if_le_t (pc := 100) (tgt := 257) (by decide +kernel : decode k_P_Formula_result.2.1 100 = .ok (.ifCond .le (157), 3)) (by decide) c3) ?_
        exact (ai (r_sub [0, 1, 2, 3, 4, 5, 6] rfl) (P_Formula_result_257_run hk9 hL h))
      · refine ai (r_if_le_f (pc := 100) 257 (by decide +kernel : decode k_P_Formula_result.2.1 100 = .ok (.ifCond .le (157), 3)) (by decide) c3) ?_
        refine ai (p_aload_n (pc := 103) (k := 0) (by decide +kernel : decode k_P_Formula_result.2.1 103 = .ok (.aload_n 0, 1)) rfl rfl) ?_
        refine ai (p_getr (pc := 104) (PR_137_1 hL) (by decide +kernel : decode k_P_Formula_result.2.1 104 = .ok (.getfield 18, 3)) lg_1_18 (PC_1 hL).1) ?_
        refine ai (r_iload (pc := 107) (k := 4) (by decide +kernel : decode k_P_Formula_result.2.1 107 = .ok (.iload 4, 2)) rfl) ?_
        refine ai (r_iconst (pc := 109) (by decide +kernel : decode k_P_Formula_result.2.1 109 = .ok (.iconst 1, 1)) ic_1) ?_
        refine ai (r_isub (pc := 110) (by decide +kernel : decode k_P_Formula_result.2.1 110 = .ok (.isub, 1))) ?_
        refine ai (r_iconst (pc := 111) (by decide +kernel : decode k_P_Formula_result.2.1 111 = .ok (.iconst 1, 1)) ic_1) ?_
        refine ai (p_aload_n (pc := 112) (k := 0) (by decide +kernel : decode k_P_Formula_result.2.1 112 = .ok (.aload_n 0, 1)) rfl rfl) ?_
        refine ai (p_getr (pc := 113) (PR_137_1 hL) (by decide +kernel : decode k_P_Formula_result.2.1 113 = .ok (.getfield 18, 3)) lg_1_18 (PC_1 hL).1) ?_
        refine ai (r_iload (pc := 116) (k := 4) (by decide +kernel : decode k_P_Formula_result.2.1 116 = .ok (.iload 4, 2)) rfl) ?_
        refine ai (r_iconst (pc := 118) (by decide +kernel : decode k_P_Formula_result.2.1 118 = .ok (.iconst 1, 1)) ic_1) ?_
        refine ai (r_isub (pc := 119) (by decide +kernel : decode k_P_Formula_result.2.1 119 = .ok (.isub, 1))) ?_
        obtain ⟨g4, h⟩ := gd_some h
        refine ai (p_iald (pc := 120) (by decide +kernel : decode k_P_Formula_result.2.1 120 = .ok (.iaload, 1)) (PC_4 hL).1 (PC_4 hL).2 g4) ?_
        refine ai (r_isub (pc := 121) (by decide +kernel : decode k_P_Formula_result.2.1 121 = .ok (.isub, 1))) ?_
        obtain ⟨g5, h⟩ := gd_some h
        have c6 := (PC_4 hL).1
        have c7 := (PC_4 hL).2
        obtain ⟨m8, hm8, h⟩ := vb_some h
        have hL : PL m8 := by rw [hm8]; exact hL
        refine ai (p_iast (pc := 122) hm8 (by decide +kernel : decode k_P_Formula_result.2.1 122 = .ok (.iastore, 1)) c6 c7 g5) ?_
        refine ai (r_goto (pc := 123) (tgt := 257) (by decide +kernel : decode k_P_Formula_result.2.1 123 = .ok (.goto (134), 3)) (by decide)) ?_
        exact (ai (r_sub [0, 1, 2, 3, 4, 5, 6] rfl) (P_Formula_result_257_run hk9 hL h))
    · refine ai (r_icmp_ne_t (pc := 95) (tgt := 126) (by decide +kernel : decode k_P_Formula_result.2.1 95 = .ok (.if_icmp .ne (31), 3)) (by decide) c2) ?_
      refine ai (r_iload (pc := 126) (k := 4) (by decide +kernel : decode k_P_Formula_result.2.1 126 = .ok (.iload 4, 2)) rfl) ?_
      refine ai (r_iconst (pc := 128) (by decide +kernel : decode k_P_Formula_result.2.1 128 = .ok (.iconst 1, 1)) ic_1) ?_
      rcases ite_some h with ⟨c9, h⟩ | ⟨c9, h⟩
      · refine ai (r_icmp_le_t (pc := 129) (tgt := 257) (by decide +kernel : decode k_P_Formula_result.2.1 129 = .ok (.if_icmp .le (128), 3)) (by decide) c9) ?_
        exact (ai (r_sub [0, 1, 2, 3, 4, 5, 6] rfl) (P_Formula_result_257_run hk9 hL h))
      · refine ai (r_icmp_le_f (pc := 129) 257 (by decide +kernel : decode k_P_Formula_result.2.1 129 = .ok (.if_icmp .le (128), 3)) (by decide) c9) ?_
        obtain ⟨v10, hv10, h⟩ := vb_some h
        refine ai (e_iinc (pc := 132) (k := 4) hv10 ic_m1 (by decide +kernel : decode k_P_Formula_result.2.1 132 = .ok (.iinc 4 (-1), 3)) rfl (by decide) rfl) ?_
        refine ai (r_iload (pc := 135) (k := 5) (by decide +kernel : decode k_P_Formula_result.2.1 135 = .ok (.iload 5, 2)) rfl) ?_
        rcases ite_some h with ⟨c11, h⟩ | ⟨c11, h⟩
        · refine ai (r_if_ne_f (pc := 137) 157 (by decide +kernel : decode k_P_Formula_result.2.1 137 = .ok (.ifCond .ne (20), 3)) (by decide) c11) ?_
          refine ai (r_iload (pc := 140) (k := 7) (by decide +kernel : decode k_P_Formula_result.2.1 140 = .ok (.iload 7, 2)) rfl) ?_
          refine ai (r_bipush (pc := 142) (by decide +kernel : decode k_P_Formula_result.2.1 142 = .ok (.bipush (9), 2)) (by decide : _ = (9 : Int32))) ?_
          rcases ite_some h with ⟨c12, h⟩ | ⟨c12, h⟩
          · refine ai (r_icmp_ne_f (pc := 144) 161 (by decide +kernel : decode k_P_Formula_result.2.1 144 = .ok (.if_icmp .ne (17), 3)) (by decide) c12) ?_
            refine ai (p_aload_n (pc := 147) (k := 1) (by decide +kernel : decode k_P_Formula_result.2.1 147 = .ok (.aload_n 0, 1)) rfl rfl) ?_
            refine ai (p_getr (pc := 148) (PR_137_1 hL) (by decide +kernel : decode k_P_Formula_result.2.1 148 = .ok (.getfield 18, 3)) lg_1_18 (PC_1 hL).1) ?_
            refine ai (r_iload (pc := 151) (k := 0) (by decide +kernel : decode k_P_Formula_result.2.1 151 = .ok (.iload 4, 2)) rfl) ?_
            obtain ⟨g13, h⟩ := gd_some h
            refine ai (p_iald (pc := 153) (by decide +kernel : decode k_P_Formula_result.2.1 153 = .ok (.iaload, 1)) (PC_4 hL).1 (PC_4 hL).2 g13) ?_
            rcases ite_some h with ⟨c14, h⟩ | ⟨c14, h⟩
            · refine ai (r_if_ne_f (pc := 154) 161 (by decide +kernel : decode k_P_Formula_result.2.1 154 = .ok (.ifCond .ne (7), 3)) (by decide) c14) ?_
              exact (ai (r_sub [1, 2, 3, 4, 0, 6, 7] rfl) (P_Formula_result_157_run hk9 hL h))
            · refine ai (r_if_ne_t (pc := 154) (tgt := 161) (by decide +kernel : decode k_P_Formula_result.2.1 154 = .ok (.ifCond .ne (7), 3)) (by decide) c14) ?_
              exact (ai (r_sub [1, 2, 3, 4, 0, 6, 7] rfl) (P_Formula_result_161_run hk9 hL h))
          · refine ai (r_icmp_ne_t (pc := 144) (tgt := 161) (by decide +kernel : decode k_P_Formula_result.2.1 144 = .ok (.if_icmp .ne (17), 3)) (by decide) c12) ?_
            exact (ai (r_sub [1, 2, 3, 4, 0, 6, 7] rfl) (P_Formula_result_161_run hk9 hL h))
        · refine ai (r_if_ne_t (pc := 137) (tgt := 157) (by decide +kernel : decode k_P_Formula_result.2.1 137 = .ok (.ifCond .ne (20), 3)) (by decide) c11) ?_
          exact (ai (r_sub [1, 2, 3, 4, 0, 6, 7] rfl) (P_Formula_result_157_run hk9 hL h))
set_option maxRecDepth 100000 in
set_option maxHeartbeats 4000000 in
theorem P_Formula_result_263_run {x4 : Int32} {x5 : Int32} {m m' : Mem} {r : Int32} (hL : PL m) (h : P_Formula_result_263 x4 x5 m = some (r, m')) : Run k_P_Formula_result 263 [(0, .ref 1), (4, .int x4), (5, .int x5)] [] m (some (.int r)) m' ∧ PL m' := by
  unfold P_Formula_result_263 at h
  refine ai (r_iload (pc := 263) (k := 2) (by decide +kernel : decode k_P_Formula_result.2.1 263 = .ok (.iload 5, 2)) rfl) ?_
  rcases ite_some h with ⟨c1, h⟩ | ⟨c1, h⟩
  · refine ai (r_if_ne_f (pc := 265) 273 (by decide +kernel : decode k_P_Formula_result.2.1 265 = .ok (.ifCond .ne (8), 3)) (by decide) c1) ?_
    refine ai (r_iload (pc := 268) (k := 1) (by decide +kernel : decode k_P_Formula_result.2.1 268 = .ok (.iload 4, 2)) rfl) ?_
    rcases ite_some h with ⟨c2, h⟩ | ⟨c2, h⟩
    · refine ai (r_if_ne_f (pc := 270) 277 (by decide +kernel : decode k_P_Formula_result.2.1 270 = .ok (.ifCond .ne (7), 3)) (by decide) c2) ?_
      refine ai (r_iconst (pc := 273) (by decide +kernel : decode k_P_Formula_result.2.1 273 = .ok (.iconst 0, 1)) ic_0) ?_
      refine ai (r_goto (pc := 274) (tgt := 283) (by decide +kernel : decode k_P_Formula_result.2.1 274 = .ok (.goto (9), 3)) (by decide)) ?_
      cases h
      exact ⟨r_iret rfl (by decide +kernel : decode k_P_Formula_result.2.1 283 = .ok (.ireturn, 1)), hL⟩
    · refine ai (r_if_ne_t (pc := 270) (tgt := 277) (by decide +kernel : decode k_P_Formula_result.2.1 270 = .ok (.ifCond .ne (7), 3)) (by decide) c2) ?_
      refine ai (p_aload_n (pc := 277) (k := 0) (by decide +kernel : decode k_P_Formula_result.2.1 277 = .ok (.aload_n 0, 1)) rfl rfl) ?_
      refine ai (p_getr (pc := 278) (PR_137_1 hL) (by decide +kernel : decode k_P_Formula_result.2.1 278 = .ok (.getfield 18, 3)) lg_1_18 (PC_1 hL).1) ?_
      refine ai (r_iconst (pc := 281) (by decide +kernel : decode k_P_Formula_result.2.1 281 = .ok (.iconst 0, 1)) ic_0) ?_
      obtain ⟨g3, h⟩ := gd_some h
      refine ai (p_iald (pc := 282) (by decide +kernel : decode k_P_Formula_result.2.1 282 = .ok (.iaload, 1)) (PC_4 hL).1 (PC_4 hL).2 g3) ?_
      cases h
      exact ⟨r_iret rfl (by decide +kernel : decode k_P_Formula_result.2.1 283 = .ok (.ireturn, 1)), hL⟩
  · refine ai (r_if_ne_t (pc := 265) (tgt := 273) (by decide +kernel : decode k_P_Formula_result.2.1 265 = .ok (.ifCond .ne (8), 3)) (by decide) c1) ?_
    refine ai (r_iconst (pc := 273) (by decide +kernel : decode k_P_Formula_result.2.1 273 = .ok (.iconst 0, 1)) ic_0) ?_
    refine ai (r_goto (pc := 274) (tgt := 283) (by decide +kernel : decode k_P_Formula_result.2.1 274 = .ok (.goto (9), 3)) (by decide)) ?_
    cases h
    exact ⟨r_iret rfl (by decide +kernel : decode k_P_Formula_result.2.1 283 = .ok (.ireturn, 1)), hL⟩
set_option maxRecDepth 100000 in
set_option maxHeartbeats 4000000 in
theorem P_Formula_result_9_run {n : Nat} {x1 : Option Nat} {x2 : Option Nat} {x3 : Int32} {x4 : Int32} {x5 : Int32} {x6 : Int32} {m m' : Mem} {r : Int32} (hL : PL m) (h : P_Formula_result_9 n x1 x2 x3 x4 x5 x6 m = some (r, m')) : Run k_P_Formula_result 9 [(0, .ref 1), (1, va_rf x1), (2, va_rf x2), (3, .int x3), (4, .int x4), (5, .int x5), (6, .int x6)] [] m (some (.int r)) m' ∧ PL m' := by
  induction n generalizing x1 x2 x3 x4 x5 x6 m r m' with
  | zero => exact absurd h (by simp [P_Formula_result_9])
  | succ n ih =>
    rw [P_Formula_result_9.eq_2] at h
    refine ai (r_iload (pc := 9) (k := 6) (by decide +kernel : decode k_P_Formula_result.2.1 9 = .ok (.iload 6, 2)) rfl) ?_
    obtain ⟨a1, rfl, hha1⟩ := gs_some h
    have h := hha1
    refine ai (p_aload_n (pc := 11) (k := 1) (by decide +kernel : decode k_P_Formula_result.2.1 11 = .ok (.aload_n 1, 1)) rfl rfl) ?_
    obtain ⟨t2, h⟩ := gt_some h
    refine ai (p_alen (pc := 12) (by decide +kernel : decode k_P_Formula_result.2.1 12 = .ok (.arraylength, 1)) (by rw [t2]; decide) rfl rfl) ?_
    rcases ite_some h with ⟨c3, h⟩ | ⟨c3, h⟩
    · refine ai (r_icmp_ge_t (pc := 13) (tgt := 263) (by decide +kernel : decode k_P_Formula_result.2.1 13 = .ok (.if_icmp .ge (250), 3)) (by decide) c3) ?_
      exact (ai (r_sub [0, 4, 5] rfl) (P_Formula_result_263_run hL h))
    · refine ai (r_icmp_ge_f (pc := 13) 263 (by decide +kernel : decode k_P_Formula_result.2.1 13 = .ok (.if_icmp .ge (250), 3)) (by decide) c3) ?_
      refine ai (p_aload_n (pc := 16) (k := 1) (by decide +kernel : decode k_P_Formula_result.2.1 16 = .ok (.aload_n 1, 1)) rfl rfl) ?_
      refine ai (r_iload (pc := 17) (k := 6) (by decide +kernel : decode k_P_Formula_result.2.1 17 = .ok (.iload 6, 2)) rfl) ?_
      obtain ⟨g4, h⟩ := gd_some h
      refine ai (p_iald (pc := 19) (by decide +kernel : decode k_P_Formula_result.2.1 19 = .ok (.iaload, 1)) t2 rfl g4) ?_
      refine ai (r_sipush (pc := 20) (by decide +kernel : decode k_P_Formula_result.2.1 20 = .ok (.sipush (10000), 3)) (by decide : _ = (10000 : Int32))) ?_
      refine ai (r_idiv (pc := 23) (by decide +kernel : decode k_P_Formula_result.2.1 23 = .ok (.idiv, 1)) (by decide)) ?_
      obtain ⟨v5, hv5, h⟩ := vb_some h
      refine ai (e_istore (pc := 24) hv5 (by decide +kernel : decode k_P_Formula_result.2.1 24 = .ok (.istore 7, 2)) (by decide) rfl) ?_
      refine ai (r_iload (pc := 26) (k := 0) (by decide +kernel : decode k_P_Formula_result.2.1 26 = .ok (.iload 7, 2)) rfl) ?_
      refine ai (r_iconst (pc := 28) (by decide +kernel : decode k_P_Formula_result.2.1 28 = .ok (.iconst 3, 1)) ic_3) ?_
      rcases ite_some h with ⟨c6, h⟩ | ⟨c6, h⟩
      · refine ai (r_icmp_eq_t (pc := 29) (tgt := 53) (by decide +kernel : decode k_P_Formula_result.2.1 29 = .ok (.if_icmp .eq (24), 3)) (by decide) c6) ?_
        exact (ai (r_sub [1, 2, 3, 4, 5, 6, 7, 0] rfl) (P_Formula_result_53_run (fun _ _ _ _ _ _ _ _ _ q1 q3 => ih q1 q3) hL h))
      · refine ai (r_icmp_eq_f (pc := 29) 53 (by decide +kernel : decode k_P_Formula_result.2.1 29 = .ok (.if_icmp .eq (24), 3)) (by decide) c6) ?_
        refine ai (r_iload (pc := 32) (k := 0) (by decide +kernel : decode k_P_Formula_result.2.1 32 = .ok (.iload 7, 2)) rfl) ?_
        refine ai (r_bipush (pc := 34) (by decide +kernel : decode k_P_Formula_result.2.1 34 = .ok (.bipush (20), 2)) (by decide : _ = (20 : Int32))) ?_
        rcases ite_some h with ⟨c7, h⟩ | ⟨c7, h⟩
        · refine ai (r_icmp_lt_t (pc := 36) (tgt := 46) (by decide +kernel : decode k_P_Formula_result.2.1 36 = .ok (.if_icmp .lt (10), 3)) (by decide) c7) ?_
          exact (ai (r_sub [1, 2, 3, 4, 5, 6, 7, 0] rfl) (P_Formula_result_46_run (fun _ _ _ _ _ _ _ _ _ q1 q3 => ih q1 q3) hL h))
        · refine ai (r_icmp_lt_f (pc := 36) 46 (by decide +kernel : decode k_P_Formula_result.2.1 36 = .ok (.if_icmp .lt (10), 3)) (by decide) c7) ?_
          refine ai (r_iload (pc := 39) (k := 0) (by decide +kernel : decode k_P_Formula_result.2.1 39 = .ok (.iload 7, 2)) rfl) ?_
          refine ai (r_bipush (pc := 41) (by decide +kernel : decode k_P_Formula_result.2.1 41 = .ok (.bipush (31), 2)) (by decide : _ = (31 : Int32))) ?_
          rcases ite_some h with ⟨c8, h⟩ | ⟨c8, h⟩
          · refine ai (r_icmp_le_t (pc := 43) (tgt := 53) (by decide +kernel : decode k_P_Formula_result.2.1 43 = .ok (.if_icmp .le (10), 3)) (by decide) c8) ?_
            exact (ai (r_sub [1, 2, 3, 4, 5, 6, 7, 0] rfl) (P_Formula_result_53_run (fun _ _ _ _ _ _ _ _ _ q1 q3 => ih q1 q3) hL h))
          · refine ai (r_icmp_le_f (pc := 43) 53 (by decide +kernel : decode k_P_Formula_result.2.1 43 = .ok (.if_icmp .le (10), 3)) (by decide) c8) ?_
            exact (ai (r_sub [1, 2, 3, 4, 5, 6, 7, 0] rfl) (P_Formula_result_46_run (fun _ _ _ _ _ _ _ _ _ q1 q3 => ih q1 q3) hL h))
set_option maxRecDepth 100000 in
set_option maxHeartbeats 4000000 in
theorem P_Formula_result_run {x1 : Option Nat} {x2 : Option Nat} {x3 : Int32} {m m' : Mem} {r : Int32} (hL : PL m) (h : P_Formula_result x1 x2 x3 m = some (r, m')) : Run k_P_Formula_result 0 [(0, .ref 1), (1, va_rf x1), (2, va_rf x2), (3, .int x3)] [] m (some (.int r)) m' ∧ PL m' := by
  unfold P_Formula_result at h
  refine ai (r_iconst (pc := 0) (by decide +kernel : decode k_P_Formula_result.2.1 0 = .ok (.iconst 0, 1)) ic_0) ?_
  refine ai (e_istore (pc := 1) rfl (by decide +kernel : decode k_P_Formula_result.2.1 1 = .ok (.istore 4, 2)) (by decide) rfl) ?_
  refine ai (r_iconst (pc := 3) (by decide +kernel : decode k_P_Formula_result.2.1 3 = .ok (.iconst 0, 1)) ic_0) ?_
  refine ai (e_istore (pc := 4) rfl (by decide +kernel : decode k_P_Formula_result.2.1 4 = .ok (.istore 5, 2)) (by decide) rfl) ?_
  refine ai (r_iconst (pc := 6) (by decide +kernel : decode k_P_Formula_result.2.1 6 = .ok (.iconst 0, 1)) ic_0) ?_
  refine ai (e_istore (pc := 7) rfl (by decide +kernel : decode k_P_Formula_result.2.1 7 = .ok (.istore 6, 2)) (by decide) rfl) ?_
  exact (ai (r_sub [3, 4, 5, 6, 2, 1, 0] rfl) (P_Formula_result_9_run hL h))
set_option maxRecDepth 100000 in
set_option maxHeartbeats 4000000 in
theorem P_Scene_fateOf_run {x1 : Option Nat} {x2 : Option Nat} {m m' : Mem} {r : Int32} (hL : PL m) (h : P_Scene_fateOf x1 x2 m = some (r, m')) : Run k_P_Scene_fateOf 0 [(0, .ref 25), (1, va_rf x1), (2, va_rf x2)] [] m (some (.int r)) m' ∧ PL m' := by
  unfold P_Scene_fateOf at h
  obtain ⟨a1, rfl, hha1⟩ := gs_some h
  have h := hha1
  refine ai (p_aload_n (pc := 0) (k := 1) (by decide +kernel : decode k_P_Scene_fateOf.2.1 0 = .ok (.aload_n 1, 1)) rfl rfl) ?_
  obtain ⟨t2, h⟩ := gt_some h
  refine ai (r_getI (pc := 1) (by decide +kernel : decode k_P_Scene_fateOf.2.1 1 = .ok (.getfield 108, 3)) lg_9_108 (by decide) t2) ?_
  rcases ite_some h with ⟨c3, h⟩ | ⟨c3, h⟩
  · refine ai (r_tableIn (pc := 4) (tgt := 48) (off := 44) (by decide +kernel : decode k_P_Scene_fateOf.2.1 4 = .ok (.tableswitch (145) (34) (40) #[44, 51, 44, 44, 61, 71, 88], 44)) (by rw [c3]; decide) (by rw [c3]; decide) (by rw [c3]; decide +kernel) (by decide)) ?_
    obtain ⟨a4, rfl, hha4⟩ := gs_some h
    have h := hha4
    refine ai (p_aload_n (pc := 48) (k := 2) (by decide +kernel : decode k_P_Scene_fateOf.2.1 48 = .ok (.aload_n 2, 1)) rfl rfl) ?_
    refine ai (p_aload_n (pc := 49) (k := 1) (by decide +kernel : decode k_P_Scene_fateOf.2.1 49 = .ok (.aload_n 1, 1)) rfl rfl) ?_
    obtain ⟨t5, h⟩ := gt_some h
    obtain ⟨r6, m7, hr6, h⟩ := bn_some h
    have q8 := P_Text_put_run hL t5 hr6
    have hL := q8.2
    refine ai (q_callV (pc := 50) (As := [.ref a1]) (st := []) (st2 := []) (b := a4) rfl rfl (by decide +kernel : decode k_P_Scene_fateOf.2.1 50 = .ok (.invokevirtual 111, 3)) lc_9_111 mo_P_Text_put ⟨Nat.le_of_ble_eq_true rfl, Nat.le_of_ble_eq_true rfl⟩ (Nat.le_of_ble_eq_true rfl) (Nat.le_of_ble_eq_true rfl) t5 q8.1) ?_
    refine ai (r_iconst (pc := 53) (by decide +kernel : decode k_P_Scene_fateOf.2.1 53 = .ok (.iconst 0, 1)) ic_0) ?_
    cases h
    exact ⟨r_iret rfl (by decide +kernel : decode k_P_Scene_fateOf.2.1 54 = .ok (.ireturn, 1)), hL⟩
  · skip
    rcases ite_some h with ⟨c9, h⟩ | ⟨c9, h⟩
    · refine ai (r_tableIn (pc := 4) (tgt := 55) (off := 51) (by decide +kernel : decode k_P_Scene_fateOf.2.1 4 = .ok (.tableswitch (145) (34) (40) #[44, 51, 44, 44, 61, 71, 88], 44)) (by rw [c9]; decide) (by rw [c9]; decide) (by rw [c9]; decide +kernel) (by decide)) ?_
      obtain ⟨a10, rfl, hha10⟩ := gs_some h
      have h := hha10
      refine ai (p_aload_n (pc := 55) (k := 2) (by decide +kernel : decode k_P_Scene_fateOf.2.1 55 = .ok (.aload_n 2, 1)) rfl rfl) ?_
      refine ai (p_aload_n (pc := 56) (k := 1) (by decide +kernel : decode k_P_Scene_fateOf.2.1 56 = .ok (.aload_n 1, 1)) rfl rfl) ?_
      refine ai (r_getI (pc := 57) (by decide +kernel : decode k_P_Scene_fateOf.2.1 57 = .ok (.getfield 115, 3)) lg_9_115 (by decide) t2) ?_
      obtain ⟨t11, h⟩ := gt_some h
      obtain ⟨m12, hm12, h⟩ := vb_some h
      have hL : PL m12 := by rw [hm12]; exact hL
      have t13 : mT m12 a1 = 3 := by rw [hm12]; exact t2
      have t14 : mT m12 a10 = 11 := by rw [hm12]; exact t11
      refine ai (p_putI (pc := 60) hm12 (by decide +kernel : decode k_P_Scene_fateOf.2.1 60 = .ok (.putfield 118, 3)) lp_9_118 t11) ?_
      refine ai (r_iconst (pc := 63) (by decide +kernel : decode k_P_Scene_fateOf.2.1 63 = .ok (.iconst 0, 1)) ic_0) ?_
      cases h
      exact ⟨r_iret rfl (by decide +kernel : decode k_P_Scene_fateOf.2.1 64 = .ok (.ireturn, 1)), hL⟩
    · skip
      rcases ite_some h with ⟨c15, h⟩ | ⟨c15, h⟩
      · refine ai (r_tableIn (pc := 4) (tgt := 48) (off := 44) (by decide +kernel : decode k_P_Scene_fateOf.2.1 4 = .ok (.tableswitch (145) (34) (40) #[44, 51, 44, 44, 61, 71, 88], 44)) (by rw [c15]; decide) (by rw [c15]; decide) (by rw [c15]; decide +kernel) (by decide)) ?_
        obtain ⟨a16, rfl, hha16⟩ := gs_some h
        have h := hha16
        refine ai (p_aload_n (pc := 48) (k := 2) (by decide +kernel : decode k_P_Scene_fateOf.2.1 48 = .ok (.aload_n 2, 1)) rfl rfl) ?_
        refine ai (p_aload_n (pc := 49) (k := 1) (by decide +kernel : decode k_P_Scene_fateOf.2.1 49 = .ok (.aload_n 1, 1)) rfl rfl) ?_
        obtain ⟨t17, h⟩ := gt_some h
        obtain ⟨r18, m19, hr18, h⟩ := bn_some h
        have q20 := P_Text_put_run hL t17 hr18
        have hL := q20.2
        refine ai (q_callV (pc := 50) (As := [.ref a1]) (st := []) (st2 := []) (b := a16) rfl rfl (by decide +kernel : decode k_P_Scene_fateOf.2.1 50 = .ok (.invokevirtual 111, 3)) lc_9_111 mo_P_Text_put ⟨Nat.le_of_ble_eq_true rfl, Nat.le_of_ble_eq_true rfl⟩ (Nat.le_of_ble_eq_true rfl) (Nat.le_of_ble_eq_true rfl) t17 q20.1) ?_
        refine ai (r_iconst (pc := 53) (by decide +kernel : decode k_P_Scene_fateOf.2.1 53 = .ok (.iconst 0, 1)) ic_0) ?_
        cases h
        exact ⟨r_iret rfl (by decide +kernel : decode k_P_Scene_fateOf.2.1 54 = .ok (.ireturn, 1)), hL⟩
      · skip
        rcases ite_some h with ⟨c21, h⟩ | ⟨c21, h⟩
        · refine ai (r_tableIn (pc := 4) (tgt := 48) (off := 44) (by decide +kernel : decode k_P_Scene_fateOf.2.1 4 = .ok (.tableswitch (145) (34) (40) #[44, 51, 44, 44, 61, 71, 88], 44)) (by rw [c21]; decide) (by rw [c21]; decide) (by rw [c21]; decide +kernel) (by decide)) ?_
          obtain ⟨a22, rfl, hha22⟩ := gs_some h
          have h := hha22
          refine ai (p_aload_n (pc := 48) (k := 2) (by decide +kernel : decode k_P_Scene_fateOf.2.1 48 = .ok (.aload_n 2, 1)) rfl rfl) ?_
          refine ai (p_aload_n (pc := 49) (k := 1) (by decide +kernel : decode k_P_Scene_fateOf.2.1 49 = .ok (.aload_n 1, 1)) rfl rfl) ?_
          obtain ⟨t23, h⟩ := gt_some h
          obtain ⟨r24, m25, hr24, h⟩ := bn_some h
          have q26 := P_Text_put_run hL t23 hr24
          have hL := q26.2
          refine ai (q_callV (pc := 50) (As := [.ref a1]) (st := []) (st2 := []) (b := a22) rfl rfl (by decide +kernel : decode k_P_Scene_fateOf.2.1 50 = .ok (.invokevirtual 111, 3)) lc_9_111 mo_P_Text_put ⟨Nat.le_of_ble_eq_true rfl, Nat.le_of_ble_eq_true rfl⟩ (Nat.le_of_ble_eq_true rfl) (Nat.le_of_ble_eq_true rfl) t23 q26.1) ?_
          refine ai (r_iconst (pc := 53) (by decide +kernel : decode k_P_Scene_fateOf.2.1 53 = .ok (.iconst 0, 1)) ic_0) ?_
          cases h
          exact ⟨r_iret rfl (by decide +kernel : decode k_P_Scene_fateOf.2.1 54 = .ok (.ireturn, 1)), hL⟩
        · skip
          rcases ite_some h with ⟨c27, h⟩ | ⟨c27, h⟩
          · refine ai (r_tableIn (pc := 4) (tgt := 65) (off := 61) (by decide +kernel : decode k_P_Scene_fateOf.2.1 4 = .ok (.tableswitch (145) (34) (40) #[44, 51, 44, 44, 61, 71, 88], 44)) (by rw [c27]; decide) (by rw [c27]; decide) (by rw [c27]; decide +kernel) (by decide)) ?_
            obtain ⟨a28, rfl, hha28⟩ := gs_some h
            have h := hha28
            refine ai (p_aload_n (pc := 65) (k := 2) (by decide +kernel : decode k_P_Scene_fateOf.2.1 65 = .ok (.aload_n 2, 1)) rfl rfl) ?_
            refine ai (p_aload_n (pc := 66) (k := 1) (by decide +kernel : decode k_P_Scene_fateOf.2.1 66 = .ok (.aload_n 1, 1)) rfl rfl) ?_
            refine ai (r_getI (pc := 67) (by decide +kernel : decode k_P_Scene_fateOf.2.1 67 = .ok (.getfield 115, 3)) lg_9_115 (by decide) t2) ?_
            obtain ⟨t29, h⟩ := gt_some h
            obtain ⟨m30, hm30, h⟩ := vb_some h
            have hL : PL m30 := by rw [hm30]; exact hL
            have t31 : mT m30 a1 = 3 := by rw [hm30]; exact t2
            have t32 : mT m30 a28 = 11 := by rw [hm30]; exact t29
            refine ai (p_putI (pc := 70) hm30 (by decide +kernel : decode k_P_Scene_fateOf.2.1 70 = .ok (.putfield 121, 3)) lp_9_121 t29) ?_
            refine ai (r_iconst (pc := 73) (by decide +kernel : decode k_P_Scene_fateOf.2.1 73 = .ok (.iconst 0, 1)) ic_0) ?_
            cases h
            exact ⟨r_iret rfl (by decide +kernel : decode k_P_Scene_fateOf.2.1 74 = .ok (.ireturn, 1)), hL⟩
          · skip
            rcases ite_some h with ⟨c33, h⟩ | ⟨c33, h⟩
            · refine ai (r_tableIn (pc := 4) (tgt := 75) (off := 71) (by decide +kernel : decode k_P_Scene_fateOf.2.1 4 = .ok (.tableswitch (145) (34) (40) #[44, 51, 44, 44, 61, 71, 88], 44)) (by rw [c33]; decide) (by rw [c33]; decide) (by rw [c33]; decide +kernel) (by decide)) ?_
              obtain ⟨a34, rfl, hha34⟩ := gs_some h
              have h := hha34
              refine ai (p_aload_n (pc := 75) (k := 2) (by decide +kernel : decode k_P_Scene_fateOf.2.1 75 = .ok (.aload_n 2, 1)) rfl rfl) ?_
              refine ai (p_aload_n (pc := 76) (k := 1) (by decide +kernel : decode k_P_Scene_fateOf.2.1 76 = .ok (.aload_n 1, 1)) rfl rfl) ?_
              refine ai (r_getI (pc := 77) (by decide +kernel : decode k_P_Scene_fateOf.2.1 77 = .ok (.getfield 124, 3)) lg_9_124 (by decide) t2) ?_
              obtain ⟨t35, h⟩ := gt_some h
              obtain ⟨r36, m37, hr36, h⟩ := bn_some h
              have q38 := P_Text_drop_run hL t35 hr36
              have hL := q38.2
              refine ai (q_callV (pc := 80) (As := [.int (mI m 258 a1)]) (st := []) (st2 := [.int r36]) (b := a34) rfl rfl (by decide +kernel : decode k_P_Scene_fateOf.2.1 80 = .ok (.invokevirtual 127, 3)) lc_9_127 mo_P_Text_drop ⟨Nat.le_of_ble_eq_true rfl, Nat.le_of_ble_eq_true rfl⟩ (Nat.le_of_ble_eq_true rfl) (Nat.le_of_ble_eq_true rfl) t35 q38.1) ?_
              rcases ite_some h with ⟨c39, h⟩ | ⟨c39, h⟩
              · refine ai (r_if_eq_t (pc := 83) (tgt := 90) (by decide +kernel : decode k_P_Scene_fateOf.2.1 83 = .ok (.ifCond .eq (7), 3)) (by decide) c39) ?_
                refine ai (r_iconst (pc := 90) (by decide +kernel : decode k_P_Scene_fateOf.2.1 90 = .ok (.iconst 2, 1)) ic_2) ?_
                cases h
                exact ⟨r_iret rfl (by decide +kernel : decode k_P_Scene_fateOf.2.1 91 = .ok (.ireturn, 1)), hL⟩
              · refine ai (r_if_eq_f (pc := 83) 90 (by decide +kernel : decode k_P_Scene_fateOf.2.1 83 = .ok (.ifCond .eq (7), 3)) (by decide) c39) ?_
                refine ai (r_iconst (pc := 86) (by decide +kernel : decode k_P_Scene_fateOf.2.1 86 = .ok (.iconst 0, 1)) ic_0) ?_
                refine ai (r_goto (pc := 87) (tgt := 91) (by decide +kernel : decode k_P_Scene_fateOf.2.1 87 = .ok (.goto (4), 3)) (by decide)) ?_
                cases h
                exact ⟨r_iret rfl (by decide +kernel : decode k_P_Scene_fateOf.2.1 91 = .ok (.ireturn, 1)), hL⟩
            · skip
              rcases ite_some h with ⟨c40, h⟩ | ⟨c40, h⟩
              · refine ai (r_tableIn (pc := 4) (tgt := 92) (off := 88) (by decide +kernel : decode k_P_Scene_fateOf.2.1 4 = .ok (.tableswitch (145) (34) (40) #[44, 51, 44, 44, 61, 71, 88], 44)) (by rw [c40]; decide) (by rw [c40]; decide) (by rw [c40]; decide +kernel) (by decide)) ?_
                obtain ⟨a41, rfl, hha41⟩ := gs_some h
                have h := hha41
                refine ai (p_aload_n (pc := 92) (k := 2) (by decide +kernel : decode k_P_Scene_fateOf.2.1 92 = .ok (.aload_n 2, 1)) rfl rfl) ?_
                refine ai (p_aload_n (pc := 93) (k := 1) (by decide +kernel : decode k_P_Scene_fateOf.2.1 93 = .ok (.aload_n 1, 1)) rfl rfl) ?_
                refine ai (r_getI (pc := 94) (by decide +kernel : decode k_P_Scene_fateOf.2.1 94 = .ok (.getfield 124, 3)) lg_9_124 (by decide) t2) ?_
                obtain ⟨t42, h⟩ := gt_some h
                obtain ⟨r43, m44, hr43, h⟩ := bn_some h
                have q45 := P_Text_classEntry_run hL t42 hr43
                have hL := q45.2
                refine ai (q_callV (pc := 97) (As := [.int (mI m 258 a1)]) (st := []) (st2 := [.int r43]) (b := a41) rfl rfl (by decide +kernel : decode k_P_Scene_fateOf.2.1 97 = .ok (.invokevirtual 131, 3)) lc_9_131 mo_P_Text_classEntry ⟨Nat.le_of_ble_eq_true rfl, Nat.le_of_ble_eq_true rfl⟩ (Nat.le_of_ble_eq_true rfl) (Nat.le_of_ble_eq_true rfl) t42 q45.1) ?_
                refine ai (e_istore_n (pc := 100) rfl (by decide +kernel : decode k_P_Scene_fateOf.2.1 100 = .ok (.istore_n 3, 1)) rfl (by decide) rfl) ?_
                refine ai (r_iload_n (pc := 101) (k := 0) (by decide +kernel : decode k_P_Scene_fateOf.2.1 101 = .ok (.iload_n 3, 1)) rfl rfl) ?_
                refine ai (r_iconst (pc := 102) (by decide +kernel : decode k_P_Scene_fateOf.2.1 102 = .ok (.iconst (-1), 1)) ic_m1) ?_
                rcases ite_some h with ⟨c46, h⟩ | ⟨c46, h⟩
                · refine ai (r_icmp_ne_f (pc := 103) 108 (by decide +kernel : decode k_P_Scene_fateOf.2.1 103 = .ok (.if_icmp .ne (5), 3)) (by decide) c46) ?_
                  refine ai (r_iconst (pc := 106) (by decide +kernel : decode k_P_Scene_fateOf.2.1 106 = .ok (.iconst 2, 1)) ic_2) ?_
                  cases h
                  exact ⟨r_iret rfl (by decide +kernel : decode k_P_Scene_fateOf.2.1 107 = .ok (.ireturn, 1)), hL⟩
                · refine ai (r_icmp_ne_t (pc := 103) (tgt := 108) (by decide +kernel : decode k_P_Scene_fateOf.2.1 103 = .ok (.if_icmp .ne (5), 3)) (by decide) c46) ?_
                  refine ai (p_aload_n (pc := 108) (k := 1) (by decide +kernel : decode k_P_Scene_fateOf.2.1 108 = .ok (.aload_n 0, 1)) rfl rfl) ?_
                  refine ai (p_getr (pc := 109) (PR_1154_25 hL) (by decide +kernel : decode k_P_Scene_fateOf.2.1 109 = .ok (.getfield 30, 3)) lg_9_30 (PC_25 hL).1) ?_
                  refine ai (p_aload_n (pc := 112) (k := 2) (by decide +kernel : decode k_P_Scene_fateOf.2.1 112 = .ok (.aload_n 1, 1)) rfl rfl) ?_
                  obtain ⟨t47, h⟩ := gt_some h
                  refine ai (p_getR (pc := 113) (by decide +kernel : decode k_P_Scene_fateOf.2.1 113 = .ok (.getfield 135, 3)) lg_9_135 t47) ?_
                  refine ai (p_aload_n (pc := 116) (k := 1) (by decide +kernel : decode k_P_Scene_fateOf.2.1 116 = .ok (.aload_n 0, 1)) rfl rfl) ?_
                  refine ai (p_getr (pc := 117) (PR_1155_25 hL) (by decide +kernel : decode k_P_Scene_fateOf.2.1 117 = .ok (.getfield 9, 3)) lg_9_9 (PC_25 hL).1) ?_
                  refine ai (r_iconst (pc := 120) (by decide +kernel : decode k_P_Scene_fateOf.2.1 120 = .ok (.iconst 0, 1)) ic_0) ?_
                  obtain ⟨r48, m49, hr48, h⟩ := bn_some h
                  have q50 := P_Formula_result_run hL hr48
                  have c51 := (PC_1 hL).1
                  have hL := q50.2
                  refine ai (q_callV (pc := 121) (As := [va_rf (mR m44 262 a1), .ref 26, .int 0]) (st := []) (st2 := [.int r48]) (b := 1) (by simp [lv_args, vrc, vrs, cti, ctr, ctl, ctn, cta]) rfl (by decide +kernel : decode k_P_Scene_fateOf.2.1 121 = .ok (.invokevirtual 138, 3)) lc_9_138 mo_P_Formula_result ⟨Nat.le_of_ble_eq_true rfl, Nat.le_of_ble_eq_true rfl⟩ (by simp [lg_sl, vrc, vrs, cti, ctr, ctl, ctn, cta, k_P_Formula_result]) (Nat.le_of_ble_eq_true rfl) c51 q50.1) ?_
                  refine ai (p_aload_n (pc := 124) (k := 2) (by decide +kernel : decode k_P_Scene_fateOf.2.1 124 = .ok (.aload_n 1, 1)) rfl rfl) ?_
                  obtain ⟨t52, h⟩ := gt_some h
                  refine ai (r_getI (pc := 125) (by decide +kernel : decode k_P_Scene_fateOf.2.1 125 = .ok (.getfield 144, 3)) lg_9_144 (by decide) t52) ?_
                  refine ai (p_aload_n (pc := 128) (k := 2) (by decide +kernel : decode k_P_Scene_fateOf.2.1 128 = .ok (.aload_n 1, 1)) rfl rfl) ?_
                  refine ai (r_getI (pc := 129) (by decide +kernel : decode k_P_Scene_fateOf.2.1 129 = .ok (.getfield 147, 3)) lg_9_147 (by decide) t52) ?_
                  obtain ⟨r53, hr53, h⟩ := bp_some h
                  refine ai (q_callSN (pc := 132) (As := [.int r48, .int (mI m49 266 a1), .int (mI m49 267 a1)]) (st := []) (st2 := [.int r53]) rfl rfl (by decide +kernel : decode k_P_Scene_fateOf.2.1 132 = .ok (.invokestatic 150, 3)) lc_9_150 mo_P_within ⟨Nat.le_of_ble_eq_true rfl, Nat.le_of_ble_eq_true rfl⟩ (Nat.le_of_ble_eq_true rfl) (Nat.le_of_ble_eq_true rfl) (P_within_run hr53)) ?_
                  rcases ite_some h with ⟨c54, h⟩ | ⟨c54, h⟩
                  · refine ai (r_if_ne_f (pc := 135) 140 (by decide +kernel : decode k_P_Scene_fateOf.2.1 135 = .ok (.ifCond .ne (5), 3)) (by decide) c54) ?_
                    refine ai (r_iconst (pc := 138) (by decide +kernel : decode k_P_Scene_fateOf.2.1 138 = .ok (.iconst 3, 1)) ic_3) ?_
                    cases h
                    exact ⟨r_iret rfl (by decide +kernel : decode k_P_Scene_fateOf.2.1 139 = .ok (.ireturn, 1)), hL⟩
                  · refine ai (r_if_ne_t (pc := 135) (tgt := 140) (by decide +kernel : decode k_P_Scene_fateOf.2.1 135 = .ok (.ifCond .ne (5), 3)) (by decide) c54) ?_
                    refine ai (p_aload_n (pc := 140) (k := 3) (by decide +kernel : decode k_P_Scene_fateOf.2.1 140 = .ok (.aload_n 2, 1)) rfl rfl) ?_
                    obtain ⟨t55, h⟩ := gt_some h
                    obtain ⟨a56, o57, h⟩ := gs_some h
                    refine ai (p_getr (pc := 141) o57 (by decide +kernel : decode k_P_Scene_fateOf.2.1 141 = .ok (.getfield 154, 3)) lg_9_154 t55) ?_
                    refine ai (r_iload_n (pc := 144) (k := 0) (by decide +kernel : decode k_P_Scene_fateOf.2.1 144 = .ok (.iload_n 3, 1)) rfl rfl) ?_
                    refine ai (p_aload_n (pc := 145) (k := 2) (by decide +kernel : decode k_P_Scene_fateOf.2.1 145 = .ok (.aload_n 1, 1)) rfl rfl) ?_
                    obtain ⟨t58, h⟩ := gt_some h
                    obtain ⟨g59, h⟩ := gd_some h
                    obtain ⟨m60, hm60, h⟩ := vb_some h
                    have hL : PL m60 := by rw [hm60]; exact hL
                    have t61 : mT m60 a1 = 3 := by rw [hm60]; exact t52
                    have t62 : mT m60 a41 = 11 := by rw [hm60]; exact t55
                    have t63 : mT m60 a56 = 36 := by rw [hm60]; exact t58
                    refine ai (p_aastr (pc := 146) (j := 0) (by decide) hm60 (by decide +kernel : decode k_P_Scene_fateOf.2.1 146 = .ok (.aastore, 1)) t58 rfl g59 t52) ?_
                    refine ai (r_iconst (pc := 147) (by decide +kernel : decode k_P_Scene_fateOf.2.1 147 = .ok (.iconst 0, 1)) ic_0) ?_
                    cases h
                    exact ⟨r_iret rfl (by decide +kernel : decode k_P_Scene_fateOf.2.1 148 = .ok (.ireturn, 1)), hL⟩
              · skip
                have ho := tab_out (x := mI m 256 a1) 34 7 (by decide) (by decide) (fun k hk => by
                  rcases (show k = 0 ∨ k = 1 ∨ k = 2 ∨ k = 3 ∨ k = 4 ∨ k = 5 ∨ k = 6 by omega) with rfl | rfl | rfl | rfl | rfl | rfl | rfl
                  · exact fun z => c3 (z.trans (by decide))
                  · exact fun z => c9 (z.trans (by decide))
                  · exact fun z => c15 (z.trans (by decide))
                  · exact fun z => c21 (z.trans (by decide))
                  · exact fun z => c27 (z.trans (by decide))
                  · exact fun z => c33 (z.trans (by decide))
                  · exact fun z => c40 (z.trans (by decide)))
                refine ai (r_tableOut (pc := 4) (tgt := 149) (by decide +kernel : decode k_P_Scene_fateOf.2.1 4 = .ok (.tableswitch (145) (34) (40) #[44, 51, 44, 44, 61, 71, 88], 44)) (by simpa using ho) (by decide)) ?_
                refine ai (r_iconst (pc := 149) (by decide +kernel : decode k_P_Scene_fateOf.2.1 149 = .ok (.iconst 0, 1)) ic_0) ?_
                cases h
                exact ⟨r_iret rfl (by decide +kernel : decode k_P_Scene_fateOf.2.1 150 = .ok (.ireturn, 1)), hL⟩
set_option maxRecDepth 100000 in
set_option maxHeartbeats 4000000 in
theorem P_Scene_apply_2_run {n : Nat} {x1 : Option Nat} {x2 : Option Nat} {x3 : Int32} {m m' : Mem} {r : Unit} (hL : PL m) (h : P_Scene_apply_2 n x1 x2 x3 m = some (r, m')) : Run k_P_Scene_apply 2 [(0, .ref 25), (1, va_rf x1), (2, va_rf x2), (3, .int x3)] [] m none m' ∧ PL m' := by
  induction n generalizing x1 x2 x3 m r m' with
  | zero => exact absurd h (by simp [P_Scene_apply_2])
  | succ n ih =>
    rw [P_Scene_apply_2.eq_2] at h
    refine ai (r_iload_n (pc := 2) (k := 3) (by decide +kernel : decode k_P_Scene_apply.2.1 2 = .ok (.iload_n 3, 1)) rfl rfl) ?_
    obtain ⟨a1, rfl, hha1⟩ := gs_some h
    have h := hha1
    refine ai (p_aload_n (pc := 3) (k := 1) (by decide +kernel : decode k_P_Scene_apply.2.1 3 = .ok (.aload_n 1, 1)) rfl rfl) ?_
    obtain ⟨t2, h⟩ := gt_some h
    obtain ⟨a3, o4, h⟩ := gs_some h
    refine ai (p_getr (pc := 4) o4 (by decide +kernel : decode k_P_Scene_apply.2.1 4 = .ok (.getfield 95, 3)) lg_9_95 t2) ?_
    obtain ⟨t5, h⟩ := gt_some h
    refine ai (p_alen (pc := 7) (by decide +kernel : decode k_P_Scene_apply.2.1 7 = .ok (.arraylength, 1)) (by rw [t5]; decide) rfl rfl) ?_
    rcases ite_some h with ⟨c6, h⟩ | ⟨c6, h⟩
    · refine ai (r_icmp_ge_t (pc := 8) (tgt := 37) (by decide +kernel : decode k_P_Scene_apply.2.1 8 = .ok (.if_icmp .ge (29), 3)) (by decide) c6) ?_
      cases h
      exact ⟨r_vret rfl (by decide +kernel : decode k_P_Scene_apply.2.1 37 = .ok (.return_, 1)), hL⟩
    · refine ai (r_icmp_ge_f (pc := 8) 37 (by decide +kernel : decode k_P_Scene_apply.2.1 8 = .ok (.if_icmp .ge (29), 3)) (by decide) c6) ?_
      refine ai (p_aload_n (pc := 11) (k := 1) (by decide +kernel : decode k_P_Scene_apply.2.1 11 = .ok (.aload_n 1, 1)) rfl rfl) ?_
      obtain ⟨a7, o8, h⟩ := gs_some h
      refine ai (p_getr (pc := 12) o8 (by decide +kernel : decode k_P_Scene_apply.2.1 12 = .ok (.getfield 95, 3)) lg_9_95 t2) ?_
      refine ai (r_iload_n (pc := 15) (k := 3) (by decide +kernel : decode k_P_Scene_apply.2.1 15 = .ok (.iload_n 3, 1)) rfl rfl) ?_
      obtain ⟨t9, h⟩ := gt_some h
      obtain ⟨g10, h⟩ := gd_some h
      obtain ⟨a11, o12, h⟩ := gs_some h
      refine ai (p_aaldr (pc := 16) (j := 0) (by decide) o12 (by decide +kernel : decode k_P_Scene_apply.2.1 16 = .ok (.aaload, 1)) t9 rfl g10) ?_
      refine ai (p_aload_n (pc := 17) (k := 0) (by decide +kernel : decode k_P_Scene_apply.2.1 17 = .ok (.aload_n 0, 1)) rfl rfl) ?_
      refine ai (p_aload_n (pc := 18) (k := 1) (by decide +kernel : decode k_P_Scene_apply.2.1 18 = .ok (.aload_n 1, 1)) rfl rfl) ?_
      obtain ⟨a13, o14, h⟩ := gs_some h
      refine ai (p_getr (pc := 19) o14 (by decide +kernel : decode k_P_Scene_apply.2.1 19 = .ok (.getfield 95, 3)) lg_9_95 t2) ?_
      refine ai (r_iload_n (pc := 22) (k := 3) (by decide +kernel : decode k_P_Scene_apply.2.1 22 = .ok (.iload_n 3, 1)) rfl rfl) ?_
      obtain ⟨t15, h⟩ := gt_some h
      obtain ⟨g16, h⟩ := gd_some h
      refine ai (p_aald (pc := 23) (j := 0) (by decide) (by decide +kernel : decode k_P_Scene_apply.2.1 23 = .ok (.aaload, 1)) t15 rfl g16) ?_
      refine ai (r_aload_n (pc := 24) (k := 2) (by decide +kernel : decode k_P_Scene_apply.2.1 24 = .ok (.aload_n 2, 1)) rfl rfl) ?_
      obtain ⟨r17, m18, hr17, h⟩ := bn_some h
      have q19 := P_Scene_fateOf_run hL hr17
      have c20 := (PC_25 hL).1
      have hL := q19.2
      refine ai (q_callV (pc := 25) (As := [va_rf (aR m a13 (ix x3)), va_rf x2]) (st := [.ref a11]) (st2 := [.int r17, .ref a11]) (b := 25) (by simp [lv_args, vrc, vrs, cti, ctr, ctl, ctn, cta]) rfl (by decide +kernel : decode k_P_Scene_apply.2.1 25 = .ok (.invokevirtual 99, 3)) lc_9_99 mo_P_Scene_fateOf ⟨Nat.le_of_ble_eq_true rfl, Nat.le_of_ble_eq_true rfl⟩ (by simp [lg_sl, vrc, vrs, cti, ctr, ctl, ctn, cta, k_P_Scene_fateOf]) (Nat.le_of_ble_eq_true rfl) c20 q19.1) ?_
      obtain ⟨t21, h⟩ := gt_some h
      obtain ⟨m22, hm22, h⟩ := vb_some h
      have hL : PL m22 := by rw [hm22]; exact hL
      have t23 : mT m22 a11 = 3 := by rw [hm22]; exact t21
      refine ai (p_putI (pc := 28) hm22 (by decide +kernel : decode k_P_Scene_apply.2.1 28 = .ok (.putfield 103, 3)) lp_9_103 t21) ?_
      obtain ⟨v24, hv24, h⟩ := vb_some h
      refine ai (e_iinc (pc := 31) (k := 3) hv24 ic_1 (by decide +kernel : decode k_P_Scene_apply.2.1 31 = .ok (.iinc 3 (1), 3)) rfl (by decide) (by simp [f1, vrc, vrs, cti, ctr, ctl, ctn, cta]) (ls2 := [(3, .int v24), (0, .ref 25), (1, .ref a1), (2, va_rf x2)]) (i := 3)) ?_
      refine ai (r_goto (pc := 34) (tgt := 2) (by decide +kernel : decode k_P_Scene_apply.2.1 34 = .ok (.goto (-32), 3)) (by decide)) ?_
      exact (ai (r_sub [1, 2, 3, 0] rfl) (ih hL h))
set_option maxRecDepth 100000 in
set_option maxHeartbeats 4000000 in
theorem P_Scene_apply_run {x1 : Option Nat} {x2 : Option Nat} {m m' : Mem} {r : Unit} (hL : PL m) (h : P_Scene_apply x1 x2 m = some (r, m')) : Run k_P_Scene_apply 0 [(0, .ref 25), (1, va_rf x1), (2, va_rf x2)] [] m none m' ∧ PL m' := by
  unfold P_Scene_apply at h
  refine ai (r_iconst (pc := 0) (by decide +kernel : decode k_P_Scene_apply.2.1 0 = .ok (.iconst 0, 1)) ic_0) ?_
  refine ai (e_istore_n (pc := 1) rfl (by decide +kernel : decode k_P_Scene_apply.2.1 1 = .ok (.istore_n 3, 1)) rfl (by decide) (by simp [f1, vrc, vrs, cti, ctr, ctl, ctn, cta]) (ls2 := [(3, .int 0), (0, .ref 25), (1, va_rf x1), (2, va_rf x2)]) (i := 3)) ?_
  exact (ai (r_sub [1, 2, 3, 0] rfl) (P_Scene_apply_2_run hL h))
set_option maxRecDepth 100000 in
set_option maxHeartbeats 4000000 in
theorem P_Scene_open_157_run {k104 : Int32 → Mem → Option (Unit × Mem)} {x6 : Int32} {m m' : Mem} {r : Unit} (hk104 : ∀ (x6 : Int32) (m : Mem) (r : Unit) (m' : Mem), PL m → k104 x6 m = some (r, m') → Run k_P_Scene_open 104 [(0, .ref 25), (6, .int x6)] [] m none m' ∧ PL m') (hL : PL m) (h : P_Scene_open_157 k104 x6 m = some (r, m')) : Run k_P_Scene_open 157 [(0, .ref 25), (6, .int x6)] [] m none m' ∧ PL m' := by
  unfold P_Scene_open_157 at h
  obtain ⟨v1, hv1, h⟩ := vb_some h
  refine ai (e_iinc (pc := 157) (k := 1) hv1 ic_1 (by decide +kernel : decode k_P_Scene_open.2.1 157 = .ok (.iinc 6 (1), 3)) rfl (by decide) rfl) ?_
  refine ai (r_goto (pc := 160) (tgt := 104) (by decide +kernel : decode k_P_Scene_open.2.1 160 = .ok (.goto (-56), 3)) (by decide)) ?_
  exact (ai (r_sub [1, 0] rfl) (hk104 v1 m _ _ hL h))
set_option maxRecDepth 100000 in
set_option maxHeartbeats 4000000 in
theorem P_Scene_open_228_run {k166 : Int32 → Mem → Option (Unit × Mem)} {x6 : Int32} {m m' : Mem} {r : Unit} (hk166 : ∀ (x6 : Int32) (m : Mem) (r : Unit) (m' : Mem), PL m → k166 x6 m = some (r, m') → Run k_P_Scene_open 166 [(0, .ref 25), (6, .int x6)] [] m none m' ∧ PL m') (hL : PL m) (h : P_Scene_open_228 k166 x6 m = some (r, m')) : Run k_P_Scene_open 228 [(0, .ref 25), (6, .int x6)] [] m none m' ∧ PL m' := by
  unfold P_Scene_open_228 at h
  obtain ⟨v1, hv1, h⟩ := vb_some h
  refine ai (e_iinc (pc := 228) (k := 1) hv1 ic_1 (by decide +kernel : decode k_P_Scene_open.2.1 228 = .ok (.iinc 6 (1), 3)) rfl (by decide) rfl) ?_
  refine ai (r_goto (pc := 231) (tgt := 166) (by decide +kernel : decode k_P_Scene_open.2.1 231 = .ok (.goto (-65), 3)) (by decide)) ?_
  exact (ai (r_sub [1, 0] rfl) (hk166 v1 m _ _ hL h))
set_option maxRecDepth 100000 in
set_option maxHeartbeats 4000000 in
theorem P_Scene_open_166_run {n : Nat} {x6 : Int32} {m m' : Mem} {r : Unit} (hL : PL m) (h : P_Scene_open_166 n x6 m = some (r, m')) : Run k_P_Scene_open 166 [(0, .ref 25), (6, .int x6)] [] m none m' ∧ PL m' := by
  induction n generalizing x6 m r m' with
  | zero => exact absurd h (by simp [P_Scene_open_166])
  | succ n ih =>
    rw [P_Scene_open_166.eq_2] at h
    refine ai (r_iload (pc := 166) (k := 1) (by decide +kernel : decode k_P_Scene_open.2.1 166 = .ok (.iload 6, 2)) rfl) ?_
    refine ai (p_aload_n (pc := 168) (k := 0) (by decide +kernel : decode k_P_Scene_open.2.1 168 = .ok (.aload_n 0, 1)) rfl rfl) ?_
    refine ai (p_getr (pc := 169) (PR_1153_25 hL) (by decide +kernel : decode k_P_Scene_open.2.1 169 = .ok (.getfield 26, 3)) lg_9_26 (PC_25 hL).1) ?_
    refine ai (r_getI (pc := 172) (by decide +kernel : decode k_P_Scene_open.2.1 172 = .ok (.getfield 68, 3)) lg_9_68 (by decide) (PC_13 hL).1) ?_
    rcases ite_some h with ⟨c1, h⟩ | ⟨c1, h⟩
    · refine ai (r_icmp_ge_t (pc := 175) (tgt := 234) (by decide +kernel : decode k_P_Scene_open.2.1 175 = .ok (.if_icmp .ge (59), 3)) (by decide) c1) ?_
      cases h
      exact ⟨r_vret rfl (by decide +kernel : decode k_P_Scene_open.2.1 234 = .ok (.return_, 1)), hL⟩
    · refine ai (r_icmp_ge_f (pc := 175) 234 (by decide +kernel : decode k_P_Scene_open.2.1 175 = .ok (.if_icmp .ge (59), 3)) (by decide) c1) ?_
      refine ai (p_aload_n (pc := 178) (k := 0) (by decide +kernel : decode k_P_Scene_open.2.1 178 = .ok (.aload_n 0, 1)) rfl rfl) ?_
      refine ai (p_getr (pc := 179) (PR_1153_25 hL) (by decide +kernel : decode k_P_Scene_open.2.1 179 = .ok (.getfield 26, 3)) lg_9_26 (PC_25 hL).1) ?_
      refine ai (p_getr (pc := 182) (PR_513_13 hL) (by decide +kernel : decode k_P_Scene_open.2.1 182 = .ok (.getfield 71, 3)) lg_9_71 (PC_13 hL).1) ?_
      refine ai (r_iload (pc := 185) (k := 1) (by decide +kernel : decode k_P_Scene_open.2.1 185 = .ok (.iload 6, 2)) rfl) ?_
      obtain ⟨g2, h⟩ := gd_some h
      obtain ⟨a3, o4, h⟩ := gs_some h
      refine ai (p_aaldr (pc := 187) (j := 1) (by decide) o4 (by decide +kernel : decode k_P_Scene_open.2.1 187 = .ok (.aaload, 1)) (PC_15 hL).1 (PC_15 hL).2 g2) ?_
      refine ai (p_astore (pc := 188) (by decide +kernel : decode k_P_Scene_open.2.1 188 = .ok (.astore 7, 2)) (by decide) rfl) ?_
      refine ai (p_aload (pc := 190) (k := 0) (by decide +kernel : decode k_P_Scene_open.2.1 190 = .ok (.aload 7, 2)) rfl) ?_
      obtain ⟨t5, h⟩ := gt_some h
      refine ai (r_getI (pc := 192) (by decide +kernel : decode k_P_Scene_open.2.1 192 = .ok (.getfield 75, 3)) lg_9_75 (by decide) t5) ?_
      rcases ite_some h with ⟨c6, h⟩ | ⟨c6, h⟩
      · refine ai (r_if_eq_t (pc := 195) (tgt := 228) (by decide +kernel : decode k_P_Scene_open.2.1 195 = .ok (.ifCond .eq (33), 3)) (by decide) c6) ?_
        exact (ai (r_sub [1, 2] rfl) (P_Scene_open_228_run (fun _ _ _ _ q1 q3 => ih q1 q3) hL h))
      · refine ai (r_if_eq_f (pc := 195) 228 (by decide +kernel : decode k_P_Scene_open.2.1 195 = .ok (.ifCond .eq (33), 3)) (by decide) c6) ?_
        refine ai (p_aload (pc := 198) (k := 0) (by decide +kernel : decode k_P_Scene_open.2.1 198 = .ok (.aload 7, 2)) rfl) ?_
        obtain ⟨r7, m8, hr7, h⟩ := bn_some h
        have q9 := P_Text_changesAward_run hL t5 hr7
        have hL := q9.2
        refine ai (q_callV (pc := 200) (As := []) (st := []) (st2 := [.int r7]) (b := a3) rfl rfl (by decide +kernel : decode k_P_Scene_open.2.1 200 = .ok (.invokevirtual 81, 3)) lc_9_81 mo_P_Text_changesAward ⟨Nat.le_of_ble_eq_true rfl, Nat.le_of_ble_eq_true rfl⟩ (Nat.le_of_ble_eq_true rfl) (Nat.le_of_ble_eq_true rfl) t5 q9.1) ?_
        rcases ite_some h with ⟨c10, h⟩ | ⟨c10, h⟩
        · refine ai (r_if_eq_t (pc := 203) (tgt := 228) (by decide +kernel : decode k_P_Scene_open.2.1 203 = .ok (.ifCond .eq (25), 3)) (by decide) c10) ?_
          exact (ai (r_sub [1, 2] rfl) (P_Scene_open_228_run (fun _ _ _ _ q1 q3 => ih q1 q3) hL h))
        · refine ai (r_if_eq_f (pc := 203) 228 (by decide +kernel : decode k_P_Scene_open.2.1 203 = .ok (.ifCond .eq (25), 3)) (by decide) c10) ?_
          refine ai (p_aload (pc := 206) (k := 0) (by decide +kernel : decode k_P_Scene_open.2.1 206 = .ok (.aload 7, 2)) rfl) ?_
          obtain ⟨t11, h⟩ := gt_some h
          obtain ⟨a12, o13, h⟩ := gs_some h
          refine ai (p_getr (pc := 208) o13 (by decide +kernel : decode k_P_Scene_open.2.1 208 = .ok (.getfield 92, 3)) lg_9_92 t11) ?_
          obtain ⟨t14, h⟩ := gt_some h
          refine ai (r_getI (pc := 211) (by decide +kernel : decode k_P_Scene_open.2.1 211 = .ok (.getfield 75, 3)) lg_9_75 (by decide) t14) ?_
          rcases ite_some h with ⟨c15, h⟩ | ⟨c15, h⟩
          · refine ai (r_if_eq_t (pc := 214) (tgt := 228) (by decide +kernel : decode k_P_Scene_open.2.1 214 = .ok (.ifCond .eq (14), 3)) (by decide) c15) ?_
            exact (ai (r_sub [1, 2] rfl) (P_Scene_open_228_run (fun _ _ _ _ q1 q3 => ih q1 q3) hL h))
          · refine ai (r_if_eq_f (pc := 214) 228 (by decide +kernel : decode k_P_Scene_open.2.1 214 = .ok (.ifCond .eq (14), 3)) (by decide) c15) ?_
            refine ai (p_aload_n (pc := 217) (k := 1) (by decide +kernel : decode k_P_Scene_open.2.1 217 = .ok (.aload_n 0, 1)) rfl rfl) ?_
            refine ai (p_aload (pc := 218) (k := 0) (by decide +kernel : decode k_P_Scene_open.2.1 218 = .ok (.aload 7, 2)) rfl) ?_
            refine ai (p_aload (pc := 220) (k := 0) (by decide +kernel : decode k_P_Scene_open.2.1 220 = .ok (.aload 7, 2)) rfl) ?_
            refine ai (p_getR (pc := 222) (by decide +kernel : decode k_P_Scene_open.2.1 222 = .ok (.getfield 92, 3)) lg_9_92 t11) ?_
            obtain ⟨r16, m17, hr16, h⟩ := bn_some h
            have q18 := P_Scene_apply_run hL hr16
            have c19 := (PC_25 hL).1
            have hL := q18.2
            refine ai (q_callV (pc := 225) (As := [.ref a3, va_rf (mR m8 1285 a3)]) (st := []) (st2 := []) (b := 25) (by simp [lv_args, vrc, vrs, cti, ctr, ctl, ctn, cta]) rfl (by decide +kernel : decode k_P_Scene_open.2.1 225 = .ok (.invokevirtual 88, 3)) lc_9_88 mo_P_Scene_apply ⟨Nat.le_of_ble_eq_true rfl, Nat.le_of_ble_eq_true rfl⟩ (by simp [lg_sl, vrc, vrs, cti, ctr, ctl, ctn, cta, k_P_Scene_apply]) (Nat.le_of_ble_eq_true rfl) c19 q18.1) ?_
            exact (ai (r_sub [1, 2] rfl) (P_Scene_open_228_run (fun _ _ _ _ q1 q3 => ih q1 q3) hL h))
set_option maxRecDepth 100000 in
set_option maxHeartbeats 4000000 in
theorem P_Scene_open_163_run {m m' : Mem} {r : Unit} (hL : PL m) (h : P_Scene_open_163 m = some (r, m')) : Run k_P_Scene_open 163 [(0, .ref 25)] [] m none m' ∧ PL m' := by
  unfold P_Scene_open_163 at h
  refine ai (r_iconst (pc := 163) (by decide +kernel : decode k_P_Scene_open.2.1 163 = .ok (.iconst 0, 1)) ic_0) ?_
  refine ai (e_istore (pc := 164) rfl (by decide +kernel : decode k_P_Scene_open.2.1 164 = .ok (.istore 6, 2)) (by decide) rfl) ?_
  exact (ai (r_sub [1, 0] rfl) (P_Scene_open_166_run hL h))
set_option maxRecDepth 100000 in
set_option maxHeartbeats 4000000 in
theorem P_Scene_open_104_run {n : Nat} {x6 : Int32} {m m' : Mem} {r : Unit} (hL : PL m) (h : P_Scene_open_104 n x6 m = some (r, m')) : Run k_P_Scene_open 104 [(0, .ref 25), (6, .int x6)] [] m none m' ∧ PL m' := by
  induction n generalizing x6 m r m' with
  | zero => exact absurd h (by simp [P_Scene_open_104])
  | succ n ih =>
    rw [P_Scene_open_104.eq_2] at h
    refine ai (r_iload (pc := 104) (k := 1) (by decide +kernel : decode k_P_Scene_open.2.1 104 = .ok (.iload 6, 2)) rfl) ?_
    refine ai (p_aload_n (pc := 106) (k := 0) (by decide +kernel : decode k_P_Scene_open.2.1 106 = .ok (.aload_n 0, 1)) rfl rfl) ?_
    refine ai (p_getr (pc := 107) (PR_1153_25 hL) (by decide +kernel : decode k_P_Scene_open.2.1 107 = .ok (.getfield 26, 3)) lg_9_26 (PC_25 hL).1) ?_
    refine ai (r_getI (pc := 110) (by decide +kernel : decode k_P_Scene_open.2.1 110 = .ok (.getfield 68, 3)) lg_9_68 (by decide) (PC_13 hL).1) ?_
    rcases ite_some h with ⟨c1, h⟩ | ⟨c1, h⟩
    · refine ai (r_icmp_ge_t (pc := 113) (tgt := 163) (by decide +kernel : decode k_P_Scene_open.2.1 113 = .ok (.if_icmp .ge (50), 3)) (by decide) c1) ?_
      exact (ai (r_sub [0] rfl) (P_Scene_open_163_run hL h))
    · refine ai (r_icmp_ge_f (pc := 113) 163 (by decide +kernel : decode k_P_Scene_open.2.1 113 = .ok (.if_icmp .ge (50), 3)) (by decide) c1) ?_
      refine ai (p_aload_n (pc := 116) (k := 0) (by decide +kernel : decode k_P_Scene_open.2.1 116 = .ok (.aload_n 0, 1)) rfl rfl) ?_
      refine ai (p_getr (pc := 117) (PR_1153_25 hL) (by decide +kernel : decode k_P_Scene_open.2.1 117 = .ok (.getfield 26, 3)) lg_9_26 (PC_25 hL).1) ?_
      refine ai (p_getr (pc := 120) (PR_513_13 hL) (by decide +kernel : decode k_P_Scene_open.2.1 120 = .ok (.getfield 71, 3)) lg_9_71 (PC_13 hL).1) ?_
      refine ai (r_iload (pc := 123) (k := 1) (by decide +kernel : decode k_P_Scene_open.2.1 123 = .ok (.iload 6, 2)) rfl) ?_
      obtain ⟨g2, h⟩ := gd_some h
      obtain ⟨a3, o4, h⟩ := gs_some h
      refine ai (p_aaldr (pc := 125) (j := 1) (by decide) o4 (by decide +kernel : decode k_P_Scene_open.2.1 125 = .ok (.aaload, 1)) (PC_15 hL).1 (PC_15 hL).2 g2) ?_
      refine ai (p_astore (pc := 126) (by decide +kernel : decode k_P_Scene_open.2.1 126 = .ok (.astore 7, 2)) (by decide) rfl) ?_
      refine ai (p_aload (pc := 128) (k := 0) (by decide +kernel : decode k_P_Scene_open.2.1 128 = .ok (.aload 7, 2)) rfl) ?_
      obtain ⟨t5, h⟩ := gt_some h
      refine ai (r_getI (pc := 130) (by decide +kernel : decode k_P_Scene_open.2.1 130 = .ok (.getfield 75, 3)) lg_9_75 (by decide) t5) ?_
      rcases ite_some h with ⟨c6, h⟩ | ⟨c6, h⟩
      · refine ai (r_if_eq_t (pc := 133) (tgt := 157) (by decide +kernel : decode k_P_Scene_open.2.1 133 = .ok (.ifCond .eq (24), 3)) (by decide) c6) ?_
        exact (ai (r_sub [1, 2] rfl) (P_Scene_open_157_run (fun _ _ _ _ q1 q3 => ih q1 q3) hL h))
      · refine ai (r_if_eq_f (pc := 133) 157 (by decide +kernel : decode k_P_Scene_open.2.1 133 = .ok (.ifCond .eq (24), 3)) (by decide) c6) ?_
        refine ai (p_aload (pc := 136) (k := 0) (by decide +kernel : decode k_P_Scene_open.2.1 136 = .ok (.aload 7, 2)) rfl) ?_
        obtain ⟨r7, m8, hr7, h⟩ := bn_some h
        have q9 := P_Text_changesAward_run hL t5 hr7
        have hL := q9.2
        refine ai (q_callV (pc := 138) (As := []) (st := []) (st2 := [.int r7]) (b := a3) rfl rfl (by decide +kernel : decode k_P_Scene_open.2.1 138 = .ok (.invokevirtual 81, 3)) lc_9_81 mo_P_Text_changesAward ⟨Nat.le_of_ble_eq_true rfl, Nat.le_of_ble_eq_true rfl⟩ (Nat.le_of_ble_eq_true rfl) (Nat.le_of_ble_eq_true rfl) t5 q9.1) ?_
        rcases ite_some h with ⟨c10, h⟩ | ⟨c10, h⟩
        · refine ai (r_if_ne_f (pc := 141) 157 (by decide +kernel : decode k_P_Scene_open.2.1 141 = .ok (.ifCond .ne (16), 3)) (by decide) c10) ?_
          refine ai (p_aload (pc := 144) (k := 0) (by decide +kernel : decode k_P_Scene_open.2.1 144 = .ok (.aload 7, 2)) rfl) ?_
          obtain ⟨t11, h⟩ := gt_some h
          obtain ⟨r12, m13, hr12, h⟩ := bn_some h
          have q14 := P_Text_clear_run hL t11 hr12
          have hL := q14.2
          refine ai (q_callV (pc := 146) (As := []) (st := []) (st2 := []) (b := a3) rfl rfl (by decide +kernel : decode k_P_Scene_open.2.1 146 = .ok (.invokevirtual 85, 3)) lc_9_85 mo_P_Text_clear ⟨Nat.le_of_ble_eq_true rfl, Nat.le_of_ble_eq_true rfl⟩ (Nat.le_of_ble_eq_true rfl) (Nat.le_of_ble_eq_true rfl) t11 q14.1) ?_
          refine ai (p_aload_n (pc := 149) (k := 1) (by decide +kernel : decode k_P_Scene_open.2.1 149 = .ok (.aload_n 0, 1)) rfl rfl) ?_
          refine ai (p_aload (pc := 150) (k := 0) (by decide +kernel : decode k_P_Scene_open.2.1 150 = .ok (.aload 7, 2)) rfl) ?_
          refine ai (p_aload (pc := 152) (k := 0) (by decide +kernel : decode k_P_Scene_open.2.1 152 = .ok (.aload 7, 2)) rfl) ?_
          obtain ⟨r15, m16, hr15, h⟩ := bn_some h
          have q17 := P_Scene_apply_run hL hr15
          have c18 := (PC_25 hL).1
          have hL := q17.2
          refine ai (q_callV (pc := 154) (As := [.ref a3, .ref a3]) (st := []) (st2 := []) (b := 25) rfl rfl (by decide +kernel : decode k_P_Scene_open.2.1 154 = .ok (.invokevirtual 88, 3)) lc_9_88 mo_P_Scene_apply ⟨Nat.le_of_ble_eq_true rfl, Nat.le_of_ble_eq_true rfl⟩ (Nat.le_of_ble_eq_true rfl) (Nat.le_of_ble_eq_true rfl) c18 q17.1) ?_
          exact (ai (r_sub [1, 2] rfl) (P_Scene_open_157_run (fun _ _ _ _ q1 q3 => ih q1 q3) hL h))
        · refine ai (r_if_ne_t (pc := 141) (tgt := 157) (by decide +kernel : decode k_P_Scene_open.2.1 141 = .ok (.ifCond .ne (16), 3)) (by decide) c10) ?_
          exact (ai (r_sub [1, 2] rfl) (P_Scene_open_157_run (fun _ _ _ _ q1 q3 => ih q1 q3) hL h))
set_option maxRecDepth 100000 in
set_option maxHeartbeats 4000000 in
theorem P_Scene_open_run {x1 : Int32} {x2 : Int32} {x3 : Int32} {x4 : Int32} {m m' : Mem} {r : Unit} (hL : PL m) (h : P_Scene_open x1 x2 x3 x4 m = some (r, m')) : Run k_P_Scene_open 0 [(0, .ref 25), (1, .int x1), (2, .int x2), (3, .int x3), (4, .int x4)] [] m none m' ∧ PL m' := by
  unfold P_Scene_open at h
  refine ai (p_aload_n (pc := 0) (k := 0) (by decide +kernel : decode k_P_Scene_open.2.1 0 = .ok (.aload_n 0, 1)) rfl rfl) ?_
  refine ai (p_getr (pc := 1) (PR_1152_25 hL) (by decide +kernel : decode k_P_Scene_open.2.1 1 = .ok (.getfield 22, 3)) lg_9_22 (PC_25 hL).1) ?_
  refine ai (p_getr (pc := 4) (PR_387_5 hL) (by decide +kernel : decode k_P_Scene_open.2.1 4 = .ok (.getfield 41, 3)) lg_9_41 (PC_5 hL).1) ?_
  refine ai (r_iload_n (pc := 7) (k := 1) (by decide +kernel : decode k_P_Scene_open.2.1 7 = .ok (.iload_n 1, 1)) rfl rfl) ?_
  obtain ⟨g1, h⟩ := gd_some h
  refine ai (p_iald (pc := 8) (by decide +kernel : decode k_P_Scene_open.2.1 8 = .ok (.iaload, 1)) (PC_6 hL).1 (PC_6 hL).2 g1) ?_
  obtain ⟨v2, hv2, h⟩ := vb_some h
  refine ai (e_istore (pc := 9) hv2 (by decide +kernel : decode k_P_Scene_open.2.1 9 = .ok (.istore 5, 2)) (by decide) rfl) ?_
  refine ai (p_aload_n (pc := 11) (k := 1) (by decide +kernel : decode k_P_Scene_open.2.1 11 = .ok (.aload_n 0, 1)) rfl rfl) ?_
  refine ai (p_getr (pc := 12) (PR_1155_25 hL) (by decide +kernel : decode k_P_Scene_open.2.1 12 = .ok (.getfield 9, 3)) lg_9_9 (PC_25 hL).1) ?_
  refine ai (r_iconst (pc := 15) (by decide +kernel : decode k_P_Scene_open.2.1 15 = .ok (.iconst 0, 1)) ic_0) ?_
  refine ai (p_aload_n (pc := 16) (k := 1) (by decide +kernel : decode k_P_Scene_open.2.1 16 = .ok (.aload_n 0, 1)) rfl rfl) ?_
  refine ai (p_getr (pc := 17) (PR_1153_25 hL) (by decide +kernel : decode k_P_Scene_open.2.1 17 = .ok (.getfield 26, 3)) lg_9_26 (PC_25 hL).1) ?_
  refine ai (r_iload (pc := 20) (k := 0) (by decide +kernel : decode k_P_Scene_open.2.1 20 = .ok (.iload 5, 2)) rfl) ?_
  refine ai (r_iload_n (pc := 22) (k := 3) (by decide +kernel : decode k_P_Scene_open.2.1 22 = .ok (.iload_n 2, 1)) rfl rfl) ?_
  refine ai (r_bipush (pc := 23) (by decide +kernel : decode k_P_Scene_open.2.1 23 = .ok (.bipush (35), 2)) (by decide : _ = (35 : Int32))) ?_
  refine ai (r_idiv (pc := 25) (by decide +kernel : decode k_P_Scene_open.2.1 25 = .ok (.idiv, 1)) (by decide)) ?_
  refine ai (r_iload_n (pc := 26) (k := 4) (by decide +kernel : decode k_P_Scene_open.2.1 26 = .ok (.iload_n 3, 1)) rfl rfl) ?_
  refine ai (p_aload_n (pc := 27) (k := 1) (by decide +kernel : decode k_P_Scene_open.2.1 27 = .ok (.aload_n 0, 1)) rfl rfl) ?_
  refine ai (p_getr (pc := 28) (PR_1152_25 hL) (by decide +kernel : decode k_P_Scene_open.2.1 28 = .ok (.getfield 22, 3)) lg_9_22 (PC_25 hL).1) ?_
  refine ai (p_getr (pc := 31) (PR_393_5 hL) (by decide +kernel : decode k_P_Scene_open.2.1 31 = .ok (.getfield 46, 3)) lg_9_46 (PC_5 hL).1) ?_
  obtain ⟨r3, m4, hr3, h⟩ := bn_some h
  have q5 := P_Ledger_basket_run hL hr3
  have c6 := (PC_13 hL).1
  have hL := q5.2
  refine ai (q_callV (pc := 34) (As := [.int v2, .int (x2 / 35), .int x3, .ref 12]) (st := [.int 0, .ref 26]) (st2 := [.int r3, .int 0, .ref 26]) (b := 13) rfl rfl (by decide +kernel : decode k_P_Scene_open.2.1 34 = .ok (.invokevirtual 49, 3)) lc_9_49 mo_P_Ledger_basket ⟨Nat.le_of_ble_eq_true rfl, Nat.le_of_ble_eq_true rfl⟩ (Nat.le_of_ble_eq_true rfl) (Nat.le_of_ble_eq_true rfl) c6 q5.1) ?_
  obtain ⟨g7, h⟩ := gd_some h
  have c8 := (PC_26 hL).1
  have c9 := (PC_26 hL).2
  obtain ⟨m10, hm10, h⟩ := vb_some h
  have hL : PL m10 := by rw [hm10]; exact hL
  refine ai (p_iast (pc := 37) hm10 (by decide +kernel : decode k_P_Scene_open.2.1 37 = .ok (.iastore, 1)) c8 c9 g7) ?_
  refine ai (p_aload_n (pc := 38) (k := 1) (by decide +kernel : decode k_P_Scene_open.2.1 38 = .ok (.aload_n 0, 1)) rfl rfl) ?_
  refine ai (p_getr (pc := 39) (PR_1155_25 hL) (by decide +kernel : decode k_P_Scene_open.2.1 39 = .ok (.getfield 9, 3)) lg_9_9 (PC_25 hL).1) ?_
  refine ai (r_iconst (pc := 42) (by decide +kernel : decode k_P_Scene_open.2.1 42 = .ok (.iconst 2, 1)) ic_2) ?_
  refine ai (p_aload_n (pc := 43) (k := 1) (by decide +kernel : decode k_P_Scene_open.2.1 43 = .ok (.aload_n 0, 1)) rfl rfl) ?_
  refine ai (p_getr (pc := 44) (PR_1152_25 hL) (by decide +kernel : decode k_P_Scene_open.2.1 44 = .ok (.getfield 22, 3)) lg_9_22 (PC_25 hL).1) ?_
  refine ai (p_getr (pc := 47) (PR_388_5 hL) (by decide +kernel : decode k_P_Scene_open.2.1 47 = .ok (.getfield 55, 3)) lg_9_55 (PC_5 hL).1) ?_
  refine ai (r_iload_n (pc := 50) (k := 2) (by decide +kernel : decode k_P_Scene_open.2.1 50 = .ok (.iload_n 1, 1)) rfl rfl) ?_
  obtain ⟨g11, h⟩ := gd_some h
  refine ai (p_iald (pc := 51) (by decide +kernel : decode k_P_Scene_open.2.1 51 = .ok (.iaload, 1)) (PC_7 hL).1 (PC_7 hL).2 g11) ?_
  obtain ⟨g12, h⟩ := gd_some h
  have c13 := (PC_26 hL).1
  have c14 := (PC_26 hL).2
  obtain ⟨m15, hm15, h⟩ := vb_some h
  have hL : PL m15 := by rw [hm15]; exact hL
  refine ai (p_iast (pc := 52) hm15 (by decide +kernel : decode k_P_Scene_open.2.1 52 = .ok (.iastore, 1)) c13 c14 g12) ?_
  refine ai (p_aload_n (pc := 53) (k := 1) (by decide +kernel : decode k_P_Scene_open.2.1 53 = .ok (.aload_n 0, 1)) rfl rfl) ?_
  refine ai (p_getr (pc := 54) (PR_1155_25 hL) (by decide +kernel : decode k_P_Scene_open.2.1 54 = .ok (.getfield 9, 3)) lg_9_9 (PC_25 hL).1) ?_
  refine ai (r_iconst (pc := 57) (by decide +kernel : decode k_P_Scene_open.2.1 57 = .ok (.iconst 3, 1)) ic_3) ?_
  refine ai (r_iload (pc := 58) (k := 0) (by decide +kernel : decode k_P_Scene_open.2.1 58 = .ok (.iload 5, 2)) rfl) ?_
  obtain ⟨g16, h⟩ := gd_some h
  have c17 := (PC_26 hL).1
  have c18 := (PC_26 hL).2
  obtain ⟨m19, hm19, h⟩ := vb_some h
  have hL : PL m19 := by rw [hm19]; exact hL
  refine ai (p_iast (pc := 60) hm19 (by decide +kernel : decode k_P_Scene_open.2.1 60 = .ok (.iastore, 1)) c17 c18 g16) ?_
  refine ai (p_aload_n (pc := 61) (k := 1) (by decide +kernel : decode k_P_Scene_open.2.1 61 = .ok (.aload_n 0, 1)) rfl rfl) ?_
  refine ai (p_getr (pc := 62) (PR_1155_25 hL) (by decide +kernel : decode k_P_Scene_open.2.1 62 = .ok (.getfield 9, 3)) lg_9_9 (PC_25 hL).1) ?_
  refine ai (r_iconst (pc := 65) (by decide +kernel : decode k_P_Scene_open.2.1 65 = .ok (.iconst 4, 1)) ic_4) ?_
  refine ai (r_iload_n (pc := 66) (k := 2) (by decide +kernel : decode k_P_Scene_open.2.1 66 = .ok (.iload_n 1, 1)) rfl rfl) ?_
  obtain ⟨g20, h⟩ := gd_some h
  have c21 := (PC_26 hL).1
  have c22 := (PC_26 hL).2
  obtain ⟨m23, hm23, h⟩ := vb_some h
  have hL : PL m23 := by rw [hm23]; exact hL
  refine ai (p_iast (pc := 67) hm23 (by decide +kernel : decode k_P_Scene_open.2.1 67 = .ok (.iastore, 1)) c21 c22 g20) ?_
  refine ai (p_aload_n (pc := 68) (k := 1) (by decide +kernel : decode k_P_Scene_open.2.1 68 = .ok (.aload_n 0, 1)) rfl rfl) ?_
  refine ai (p_getr (pc := 69) (PR_1155_25 hL) (by decide +kernel : decode k_P_Scene_open.2.1 69 = .ok (.getfield 9, 3)) lg_9_9 (PC_25 hL).1) ?_
  refine ai (r_iconst (pc := 72) (by decide +kernel : decode k_P_Scene_open.2.1 72 = .ok (.iconst 0, 1)) ic_0) ?_
  refine ai (p_aload_n (pc := 73) (k := 1) (by decide +kernel : decode k_P_Scene_open.2.1 73 = .ok (.aload_n 0, 1)) rfl rfl) ?_
  refine ai (p_getr (pc := 74) (PR_1156_25 hL) (by decide +kernel : decode k_P_Scene_open.2.1 74 = .ok (.getfield 15, 3)) lg_9_15 (PC_25 hL).1) ?_
  refine ai (r_iconst (pc := 77) (by decide +kernel : decode k_P_Scene_open.2.1 77 = .ok (.iconst 0, 1)) ic_0) ?_
  refine ai (r_bipush (pc := 78) (by decide +kernel : decode k_P_Scene_open.2.1 78 = .ok (.bipush (12), 2)) (by decide : _ = (12 : Int32))) ?_
  have c24 := (PC_26 hL).1
  have c25 := (PC_27 hL).1
  obtain ⟨g26, h⟩ := gd_some h
  obtain ⟨m27, hm27, h⟩ := vb_some h
  have hL : PL m27 := by rw [hm27]; exact hL
  refine ai (r_acopy (pc := 80) hm27 (by decide +kernel : decode k_P_Scene_open.2.1 80 = .ok (.invokestatic 58, 3)) ly_9_58 ly_nat ly_st ly_ini ⟨by decide, by decide⟩ (Nat.le_of_ble_eq_true rfl) c24 c25 g26) ?_
  refine ai (p_aload_n (pc := 83) (k := 1) (by decide +kernel : decode k_P_Scene_open.2.1 83 = .ok (.aload_n 0, 1)) rfl rfl) ?_
  refine ai (p_getr (pc := 84) (PR_1156_25 hL) (by decide +kernel : decode k_P_Scene_open.2.1 84 = .ok (.getfield 15, 3)) lg_9_15 (PC_25 hL).1) ?_
  refine ai (r_iconst (pc := 87) (by decide +kernel : decode k_P_Scene_open.2.1 87 = .ok (.iconst 1, 1)) ic_1) ?_
  refine ai (r_iload (pc := 88) (k := 5) (by decide +kernel : decode k_P_Scene_open.2.1 88 = .ok (.iload 4, 2)) rfl) ?_
  obtain ⟨g28, h⟩ := gd_some h
  have c29 := (PC_27 hL).1
  have c30 := (PC_27 hL).2
  obtain ⟨m31, hm31, h⟩ := vb_some h
  have hL : PL m31 := by rw [hm31]; exact hL
  refine ai (p_iast (pc := 90) hm31 (by decide +kernel : decode k_P_Scene_open.2.1 90 = .ok (.iastore, 1)) c29 c30 g28) ?_
  refine ai (p_aload_n (pc := 91) (k := 1) (by decide +kernel : decode k_P_Scene_open.2.1 91 = .ok (.aload_n 0, 1)) rfl rfl) ?_
  refine ai (p_getr (pc := 92) (PR_1153_25 hL) (by decide +kernel : decode k_P_Scene_open.2.1 92 = .ok (.getfield 26, 3)) lg_9_26 (PC_25 hL).1) ?_
  refine ai (r_iload_n (pc := 95) (k := 2) (by decide +kernel : decode k_P_Scene_open.2.1 95 = .ok (.iload_n 1, 1)) rfl rfl) ?_
  refine ai (r_iload_n (pc := 96) (k := 3) (by decide +kernel : decode k_P_Scene_open.2.1 96 = .ok (.iload_n 2, 1)) rfl rfl) ?_
  refine ai (r_iload_n (pc := 97) (k := 4) (by decide +kernel : decode k_P_Scene_open.2.1 97 = .ok (.iload_n 3, 1)) rfl rfl) ?_
  obtain ⟨r32, m33, hr32, h⟩ := bn_some h
  have q34 := P_Ledger_setInForce_run hL hr32
  have c35 := (PC_13 hL).1
  have hL := q34.2
  refine ai (q_callV (pc := 98) (As := [.int x1, .int x2, .int x3]) (st := []) (st2 := []) (b := 13) rfl rfl (by decide +kernel : decode k_P_Scene_open.2.1 98 = .ok (.invokevirtual 64, 3)) lc_9_64 mo_P_Ledger_setInForce ⟨Nat.le_of_ble_eq_true rfl, Nat.le_of_ble_eq_true rfl⟩ (Nat.le_of_ble_eq_true rfl) (Nat.le_of_ble_eq_true rfl) c35 q34.1) ?_
  refine ai (r_iconst (pc := 101) (by decide +kernel : decode k_P_Scene_open.2.1 101 = .ok (.iconst 0, 1)) ic_0) ?_
  refine ai (e_istore (pc := 102) rfl (by decide +kernel : decode k_P_Scene_open.2.1 102 = .ok (.istore 6, 2)) (by decide) rfl) ?_
  exact (ai (r_sub [2, 0] rfl) (P_Scene_open_104_run hL h))
set_option maxRecDepth 100000 in
set_option maxHeartbeats 4000000 in
theorem P_opened_run {x1 : Int32} {x2 : Int32} {x3 : Int32} {x4 : Int32} {m m' : Mem} {r : Option Nat} (hL : PL m) (h : P_opened x1 x2 x3 x4 m = some (r, m')) : Run k_P_opened 0 [(0, .ref 0), (1, .int x1), (2, .int x2), (3, .int x3), (4, .int x4)] [] m (some (va_rf r)) m' ∧ PL m' := by
  unfold P_opened at h
  refine ai (r_iload_n (pc := 0) (k := 2) (by decide +kernel : decode k_P_opened.2.1 0 = .ok (.iload_n 2, 1)) rfl rfl) ?_
  obtain ⟨r1, hr1, h⟩ := bp_some h
  refine ai (q_callS (pc := 1) (As := [.int x2]) (st := []) (st2 := [.int r1]) rfl rfl (by decide +kernel : decode k_P_opened.2.1 1 = .ok (.invokestatic 149, 3)) lc_11_149 mo_P_isDay ⟨Nat.le_of_ble_eq_true rfl, Nat.le_of_ble_eq_true rfl⟩ (Nat.le_of_ble_eq_true rfl) (Nat.le_of_ble_eq_true rfl) (P_isDay_run hr1)) ?_
  rcases ite_some h with ⟨c2, h⟩ | ⟨c2, h⟩
  · refine ai (r_if_eq_t (pc := 4) (tgt := 30) (by decide +kernel : decode k_P_opened.2.1 4 = .ok (.ifCond .eq (26), 3)) (by decide) c2) ?_
    refine ai (r_null (pc := 30) (by decide +kernel : decode k_P_opened.2.1 30 = .ok (.aconst_null, 1))) ?_
    cases h
    exact ⟨r_aret (o := none) rfl (Or.inl ⟨_, rfl⟩) (by decide +kernel : decode k_P_opened.2.1 31 = .ok (.areturn, 1)), hL⟩
  · refine ai (r_if_eq_f (pc := 4) 30 (by decide +kernel : decode k_P_opened.2.1 4 = .ok (.ifCond .eq (26), 3)) (by decide) c2) ?_
    refine ai (p_aload_n (pc := 7) (k := 0) (by decide +kernel : decode k_P_opened.2.1 7 = .ok (.aload_n 0, 1)) rfl rfl) ?_
    refine ai (p_getr (pc := 8) (PR_1408_0 hL) (by decide +kernel : decode k_P_opened.2.1 8 = .ok (.getfield 19, 3)) lg_11_19 (PC_0 hL).1) ?_
    refine ai (r_iload_n (pc := 11) (k := 3) (by decide +kernel : decode k_P_opened.2.1 11 = .ok (.iload_n 3, 1)) rfl rfl) ?_
    obtain ⟨r3, m4, hr3, h⟩ := bn_some h
    have q5 := P_Land_hasFirm_run hL hr3
    have c6 := (PC_5 hL).1
    have hL := q5.2
    refine ai (q_callV (pc := 12) (As := [.int x3]) (st := []) (st2 := [.int r3]) (b := 5) rfl rfl (by decide +kernel : decode k_P_opened.2.1 12 = .ok (.invokevirtual 125, 3)) lc_11_125 mo_P_Land_hasFirm ⟨Nat.le_of_ble_eq_true rfl, Nat.le_of_ble_eq_true rfl⟩ (Nat.le_of_ble_eq_true rfl) (Nat.le_of_ble_eq_true rfl) c6 q5.1) ?_
    rcases ite_some h with ⟨c7, h⟩ | ⟨c7, h⟩
    · refine ai (r_if_eq_t (pc := 15) (tgt := 30) (by decide +kernel : decode k_P_opened.2.1 15 = .ok (.ifCond .eq (15), 3)) (by decide) c7) ?_
      refine ai (r_null (pc := 30) (by decide +kernel : decode k_P_opened.2.1 30 = .ok (.aconst_null, 1))) ?_
      cases h
      exact ⟨r_aret (o := none) rfl (Or.inl ⟨_, rfl⟩) (by decide +kernel : decode k_P_opened.2.1 31 = .ok (.areturn, 1)), hL⟩
    · refine ai (r_if_eq_f (pc := 15) 30 (by decide +kernel : decode k_P_opened.2.1 15 = .ok (.ifCond .eq (15), 3)) (by decide) c7) ?_
      refine ai (p_aload_n (pc := 18) (k := 0) (by decide +kernel : decode k_P_opened.2.1 18 = .ok (.aload_n 0, 1)) rfl rfl) ?_
      refine ai (p_getr (pc := 19) (PR_1409_0 hL) (by decide +kernel : decode k_P_opened.2.1 19 = .ok (.getfield 26, 3)) lg_11_26 (PC_0 hL).1) ?_
      refine ai (r_iload (pc := 22) (k := 4) (by decide +kernel : decode k_P_opened.2.1 22 = .ok (.iload 4, 2)) rfl) ?_
      obtain ⟨r8, m9, hr8, h⟩ := bn_some h
      have q10 := P_Ledger_canKnow_run hL hr8
      have c11 := (PC_13 hL).1
      have hL := q10.2
      refine ai (q_callV (pc := 24) (As := [.int x4]) (st := []) (st2 := [.int r8]) (b := 13) rfl rfl (by decide +kernel : decode k_P_opened.2.1 24 = .ok (.invokevirtual 189, 3)) lc_11_189 mo_P_Ledger_canKnow ⟨Nat.le_of_ble_eq_true rfl, Nat.le_of_ble_eq_true rfl⟩ (Nat.le_of_ble_eq_true rfl) (Nat.le_of_ble_eq_true rfl) c11 q10.1) ?_
      rcases ite_some h with ⟨c12, h⟩ | ⟨c12, h⟩
      · refine ai (r_if_ne_f (pc := 27) 32 (by decide +kernel : decode k_P_opened.2.1 27 = .ok (.ifCond .ne (5), 3)) (by decide) c12) ?_
        refine ai (r_null (pc := 30) (by decide +kernel : decode k_P_opened.2.1 30 = .ok (.aconst_null, 1))) ?_
        cases h
        exact ⟨r_aret (o := none) rfl (Or.inl ⟨_, rfl⟩) (by decide +kernel : decode k_P_opened.2.1 31 = .ok (.areturn, 1)), hL⟩
      · refine ai (r_if_ne_t (pc := 27) (tgt := 32) (by decide +kernel : decode k_P_opened.2.1 27 = .ok (.ifCond .ne (5), 3)) (by decide) c12) ?_
        refine ai (p_aload_n (pc := 32) (k := 0) (by decide +kernel : decode k_P_opened.2.1 32 = .ok (.aload_n 0, 1)) rfl rfl) ?_
        refine ai (p_getr (pc := 33) (PR_1409_0 hL) (by decide +kernel : decode k_P_opened.2.1 33 = .ok (.getfield 26, 3)) lg_11_26 (PC_0 hL).1) ?_
        refine ai (r_iload_n (pc := 36) (k := 1) (by decide +kernel : decode k_P_opened.2.1 36 = .ok (.iload_n 1, 1)) rfl rfl) ?_
        refine ai (r_iload (pc := 37) (k := 4) (by decide +kernel : decode k_P_opened.2.1 37 = .ok (.iload 4, 2)) rfl) ?_
        obtain ⟨r13, m14, hr13, h⟩ := bn_some h
        have q15 := P_Ledger_textAt_run hL hr13
        have c16 := (PC_13 hL).1
        have hL := q15.2
        refine ai (q_callV (pc := 39) (As := [.int x1, .int x4]) (st := []) (st2 := [va_rf r13]) (b := 13) rfl rfl (by decide +kernel : decode k_P_opened.2.1 39 = .ok (.invokevirtual 174, 3)) lc_11_174 mo_P_Ledger_textAt ⟨Nat.le_of_ble_eq_true rfl, Nat.le_of_ble_eq_true rfl⟩ (Nat.le_of_ble_eq_true rfl) (Nat.le_of_ble_eq_true rfl) c16 q15.1) ?_
        refine ai (r_astore (pc := 42) (by decide +kernel : decode k_P_opened.2.1 42 = .ok (.astore 5, 2)) (by decide) rfl) ?_
        refine ai (r_aload (pc := 44) (k := 0) (by decide +kernel : decode k_P_opened.2.1 44 = .ok (.aload 5, 2)) rfl) ?_
        rcases ite_some h with ⟨c17, h⟩ | ⟨c17, h⟩
        · refine ai (d_ifnull_t (pc := 46) (tgt := 61) c17 (by decide +kernel : decode k_P_opened.2.1 46 = .ok (.ifnull (15), 3)) (by decide)) ?_
          refine ai (r_aload (pc := 61) (k := 0) (by decide +kernel : decode k_P_opened.2.1 61 = .ok (.aload 5, 2)) rfl) ?_
          cases h
          exact ⟨r_aret (o := _) rfl (Or.inl ⟨_, rfl⟩) (by decide +kernel : decode k_P_opened.2.1 63 = .ok (.areturn, 1)), hL⟩
        · refine ai (d_ifnull_f (pc := 46) c17 (by decide +kernel : decode k_P_opened.2.1 46 = .ok (.ifnull (15), 3))) ?_
          refine ai (p_aload_n (pc := 49) (k := 1) (by decide +kernel : decode k_P_opened.2.1 49 = .ok (.aload_n 0, 1)) rfl rfl) ?_
          refine ai (p_getr (pc := 50) (PR_1412_0 hL) (by decide +kernel : decode k_P_opened.2.1 50 = .ok (.getfield 51, 3)) lg_11_51 (PC_0 hL).1) ?_
          refine ai (r_iload_n (pc := 53) (k := 4) (by decide +kernel : decode k_P_opened.2.1 53 = .ok (.iload_n 3, 1)) rfl rfl) ?_
          refine ai (r_iload_n (pc := 54) (k := 3) (by decide +kernel : decode k_P_opened.2.1 54 = .ok (.iload_n 2, 1)) rfl rfl) ?_
          refine ai (r_iload (pc := 55) (k := 5) (by decide +kernel : decode k_P_opened.2.1 55 = .ok (.iload 4, 2)) rfl) ?_
          refine ai (r_iconst (pc := 57) (by decide +kernel : decode k_P_opened.2.1 57 = .ok (.iconst 0, 1)) ic_0) ?_
          obtain ⟨r18, m19, hr18, h⟩ := bn_some h
          have q20 := P_Scene_open_run hL hr18
          have c21 := (PC_25 hL).1
          have hL := q20.2
          refine ai (q_callV (pc := 58) (As := [.int x3, .int x2, .int x4, .int 0]) (st := []) (st2 := []) (b := 25) rfl rfl (by decide +kernel : decode k_P_opened.2.1 58 = .ok (.invokevirtual 248, 3)) lc_11_248 mo_P_Scene_open ⟨Nat.le_of_ble_eq_true rfl, Nat.le_of_ble_eq_true rfl⟩ (Nat.le_of_ble_eq_true rfl) (Nat.le_of_ble_eq_true rfl) c21 q20.1) ?_
          refine ai (r_aload (pc := 61) (k := 0) (by decide +kernel : decode k_P_opened.2.1 61 = .ok (.aload 5, 2)) rfl) ?_
          cases h
          exact ⟨r_aret (o := _) rfl (Or.inl ⟨_, rfl⟩) (by decide +kernel : decode k_P_opened.2.1 63 = .ok (.areturn, 1)), hL⟩
set_option maxRecDepth 100000 in
set_option maxHeartbeats 4000000 in
theorem P_force_run {x1 : Int32} {x2 : Int32} {x3 : Int32} {x4 : Int32} {m m' : Mem} {r : Int32} (hL : PL m) (h : P_force x1 x2 x3 x4 m = some (r, m')) : Run k_P_force 0 [(0, .ref 0), (1, .int x1), (2, .int x2), (3, .int x3), (4, .int x4)] [] m (some (.int r)) m' ∧ PL m' := by
  unfold P_force at h
  refine ai (p_aload_n (pc := 0) (k := 0) (by decide +kernel : decode k_P_force.2.1 0 = .ok (.aload_n 0, 1)) rfl rfl) ?_
  refine ai (r_iload_n (pc := 1) (k := 1) (by decide +kernel : decode k_P_force.2.1 1 = .ok (.iload_n 1, 1)) rfl rfl) ?_
  refine ai (r_iload_n (pc := 2) (k := 2) (by decide +kernel : decode k_P_force.2.1 2 = .ok (.iload_n 2, 1)) rfl rfl) ?_
  refine ai (r_iload_n (pc := 3) (k := 3) (by decide +kernel : decode k_P_force.2.1 3 = .ok (.iload_n 3, 1)) rfl rfl) ?_
  refine ai (r_iload (pc := 4) (k := 4) (by decide +kernel : decode k_P_force.2.1 4 = .ok (.iload 4, 2)) rfl) ?_
  obtain ⟨r1, m2, hr1, h⟩ := bn_some h
  have q3 := P_opened_run hL hr1
  have c4 := (PC_0 hL).1
  have hL := q3.2
  refine ai (q_callV (pc := 6) (As := [.int x1, .int x2, .int x3, .int x4]) (st := []) (st2 := [va_rf r1]) (b := 0) rfl rfl (by decide +kernel : decode k_P_force.2.1 6 = .ok (.invokevirtual 202, 3)) lc_11_202 mo_P_opened ⟨Nat.le_of_ble_eq_true rfl, Nat.le_of_ble_eq_true rfl⟩ (Nat.le_of_ble_eq_true rfl) (Nat.le_of_ble_eq_true rfl) c4 q3.1) ?_
  refine ai (r_astore (pc := 9) (by decide +kernel : decode k_P_force.2.1 9 = .ok (.astore 5, 2)) (by decide) rfl) ?_
  refine ai (r_aload (pc := 11) (k := 0) (by decide +kernel : decode k_P_force.2.1 11 = .ok (.aload 5, 2)) rfl) ?_
  rcases ite_some h with ⟨c5, h⟩ | ⟨c5, h⟩
  · refine ai (d_ifnonnull_f (pc := 13) c5 (by decide +kernel : decode k_P_force.2.1 13 = .ok (.ifnonnull (5), 3))) ?_
    refine ai (r_iconst (pc := 16) (by decide +kernel : decode k_P_force.2.1 16 = .ok (.iconst (-1), 1)) ic_m1) ?_
    cases h
    exact ⟨r_iret rfl (by decide +kernel : decode k_P_force.2.1 17 = .ok (.ireturn, 1)), hL⟩
  · refine ai (d_ifnonnull_t (pc := 13) (tgt := 18) c5 (by decide +kernel : decode k_P_force.2.1 13 = .ok (.ifnonnull (5), 3)) (by decide)) ?_
    obtain ⟨a6, rfl, hha6⟩ := gs_some h
    have h := hha6
    refine ai (p_aload (pc := 18) (k := 0) (by decide +kernel : decode k_P_force.2.1 18 = .ok (.aload 5, 2)) rfl) ?_
    obtain ⟨t7, h⟩ := gt_some h
    refine ai (r_getI (pc := 20) (by decide +kernel : decode k_P_force.2.1 20 = .ok (.getfield 206, 3)) lg_11_206 (by decide) t7) ?_
    rcases ite_some h with ⟨c8, h⟩ | ⟨c8, h⟩
    · refine ai (r_if_eq_t (pc := 23) (tgt := 30) (by decide +kernel : decode k_P_force.2.1 23 = .ok (.ifCond .eq (7), 3)) (by decide) c8) ?_
      refine ai (r_iconst (pc := 30) (by decide +kernel : decode k_P_force.2.1 30 = .ok (.iconst 0, 1)) ic_0) ?_
      cases h
      exact ⟨r_iret rfl (by decide +kernel : decode k_P_force.2.1 31 = .ok (.ireturn, 1)), hL⟩
    · refine ai (r_if_eq_f (pc := 23) 30 (by decide +kernel : decode k_P_force.2.1 23 = .ok (.ifCond .eq (7), 3)) (by decide) c8) ?_
      refine ai (r_iconst (pc := 26) (by decide +kernel : decode k_P_force.2.1 26 = .ok (.iconst 1, 1)) ic_1) ?_
      refine ai (r_goto (pc := 27) (tgt := 31) (by decide +kernel : decode k_P_force.2.1 27 = .ok (.goto (4), 3)) (by decide)) ?_
      cases h
      exact ⟨r_iret rfl (by decide +kernel : decode k_P_force.2.1 31 = .ok (.ireturn, 1)), hL⟩
