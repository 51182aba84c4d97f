/-! written by gen/emit.py -/
set_option maxRecDepth 100000 in
set_option maxHeartbeats 4000000 in
theorem P_pay_run {x1 : Int32} {x2 : Int32} {x3 : Int32} {m m' : Mem} {r : Int32} (hL : PL m) (h : P_pay x1 x2 x3 m = some (r, m')) : Run k_P_pay 0 [(0, .ref 0), (1, .int x1), (2, .int x2), (3, .int x3)] [] m (some (.int r)) m' ∧ PL m' := by
  unfold P_pay at h
  refine ai (p_aload_n (pc := 0) (k := 0) (by decide +kernel : decode k_P_pay.2.1 0 = .ok (.aload_n 0, 1)) rfl rfl) ?_
  refine ai (r_iload_n (pc := 1) (k := 1) (by decide +kernel : decode k_P_pay.2.1 1 = .ok (.iload_n 1, 1)) rfl rfl) ?_
  refine ai (r_iload_n (pc := 2) (k := 2) (by decide +kernel : decode k_P_pay.2.1 2 = .ok (.iload_n 2, 1)) rfl rfl) ?_
  refine ai (r_iload_n (pc := 3) (k := 3) (by decide +kernel : decode k_P_pay.2.1 3 = .ok (.iload_n 3, 1)) rfl rfl) ?_
  obtain ⟨r1, m2, hr1, h⟩ := bn_some h
  have q3 := P_isWeekOf_run hL hr1
  have c4 := (PC_0 hL).1
  have hL := q3.2
  refine ai (q_callV (pc := 4) (As := [.int x1, .int x2, .int x3]) (st := []) (st2 := [.int r1]) (b := 0) rfl rfl (by decide +kernel : decode k_P_pay.2.1 4 = .ok (.invokevirtual 306, 3)) lc_11_306 mo_P_isWeekOf ⟨Nat.le_of_ble_eq_true rfl, Nat.le_of_ble_eq_true rfl⟩ (Nat.le_of_ble_eq_true rfl) (Nat.le_of_ble_eq_true rfl) c4 q3.1) ?_
  rcases ite_some h with ⟨c5, h⟩ | ⟨c5, h⟩
  · refine ai (r_if_eq_t (pc := 7) (tgt := 23) (by decide +kernel : decode k_P_pay.2.1 7 = .ok (.ifCond .eq (16), 3)) (by decide) c5) ?_
    refine ai (r_iconst (pc := 23) (by decide +kernel : decode k_P_pay.2.1 23 = .ok (.iconst (-1), 1)) ic_m1) ?_
    cases h
    exact ⟨r_iret rfl (by decide +kernel : decode k_P_pay.2.1 24 = .ok (.ireturn, 1)), hL⟩
  · refine ai (r_if_eq_f (pc := 7) 23 (by decide +kernel : decode k_P_pay.2.1 7 = .ok (.ifCond .eq (16), 3)) (by decide) c5) ?_
    refine ai (p_aload_n (pc := 10) (k := 0) (by decide +kernel : decode k_P_pay.2.1 10 = .ok (.aload_n 0, 1)) rfl rfl) ?_
    refine ai (p_getr (pc := 11) (PR_1413_0 hL) (by decide +kernel : decode k_P_pay.2.1 11 = .ok (.getfield 60, 3)) lg_11_60 (PC_0 hL).1) ?_
    refine ai (r_iload_n (pc := 14) (k := 1) (by decide +kernel : decode k_P_pay.2.1 14 = .ok (.iload_n 1, 1)) rfl rfl) ?_
    refine ai (r_iload_n (pc := 15) (k := 2) (by decide +kernel : decode k_P_pay.2.1 15 = .ok (.iload_n 2, 1)) rfl rfl) ?_
    refine ai (r_iload_n (pc := 16) (k := 3) (by decide +kernel : decode k_P_pay.2.1 16 = .ok (.iload_n 3, 1)) rfl rfl) ?_
    obtain ⟨r6, m7, hr6, h⟩ := bn_some h
    have q8 := P_Reckoning_weekPay_run hL hr6
    have c9 := (PC_28 hL).1
    have hL := q8.2
    refine ai (q_callV (pc := 17) (As := [.int x1, .int x2, .int x3]) (st := []) (st2 := [.int r6]) (b := 28) rfl rfl (by decide +kernel : decode k_P_pay.2.1 17 = .ok (.invokevirtual 309, 3)) lc_11_309 mo_P_Reckoning_weekPay ⟨Nat.le_of_ble_eq_true rfl, Nat.le_of_ble_eq_true rfl⟩ (Nat.le_of_ble_eq_true rfl) (Nat.le_of_ble_eq_true rfl) c9 q8.1) ?_
    refine ai (r_goto (pc := 20) (tgt := 24) (by decide +kernel : decode k_P_pay.2.1 20 = .ok (.goto (4), 3)) (by decide)) ?_
    cases h
    exact ⟨r_iret rfl (by decide +kernel : decode k_P_pay.2.1 24 = .ok (.ireturn, 1)), hL⟩
set_option maxRecDepth 100000 in
set_option maxHeartbeats 4000000 in
theorem P_Reckoning_isSuch_run {x1 : Int32} {x2 : Int32} {m m' : Mem} {r : Int32} (hL : PL m) (h : P_Reckoning_isSuch x1 x2 m = some (r, m')) : Run k_P_Reckoning_isSuch 0 [(0, .ref 28), (1, .int x1), (2, .int x2)] [] m (some (.int r)) m' ∧ PL m' := by
  unfold P_Reckoning_isSuch at h
  refine ai (p_aload_n (pc := 0) (k := 0) (by decide +kernel : decode k_P_Reckoning_isSuch.2.1 0 = .ok (.aload_n 0, 1)) rfl rfl) ?_
  refine ai (p_getr (pc := 1) (PR_1030_28 hL) (by decide +kernel : decode k_P_Reckoning_isSuch.2.1 1 = .ok (.getfield 17, 3)) lg_8_17 (PC_28 hL).1) ?_
  refine ai (r_iload_n (pc := 4) (k := 1) (by decide +kernel : decode k_P_Reckoning_isSuch.2.1 4 = .ok (.iload_n 1, 1)) rfl rfl) ?_
  obtain ⟨g1, h⟩ := gd_some h
  refine ai (p_iald (pc := 5) (by decide +kernel : decode k_P_Reckoning_isSuch.2.1 5 = .ok (.iaload, 1)) (PC_30 hL).1 (PC_30 hL).2 g1) ?_
  obtain ⟨r2, hr2, h⟩ := bp_some h
  refine ai (q_callSN (pc := 6) (As := [.int (aI m 30 (ix x1))]) (st := []) (st2 := [.int r2]) rfl rfl (by decide +kernel : decode k_P_Reckoning_isSuch.2.1 6 = .ok (.invokestatic 89, 3)) lc_8_89 mo_P_isTask ⟨Nat.le_of_ble_eq_true rfl, Nat.le_of_ble_eq_true rfl⟩ (Nat.le_of_ble_eq_true rfl) (Nat.le_of_ble_eq_true rfl) (P_isTask_run hr2)) ?_
  refine ai (e_istore_n (pc := 9) rfl (by decide +kernel : decode k_P_Reckoning_isSuch.2.1 9 = .ok (.istore_n 3, 1)) rfl (by decide) rfl (ls2 := [(3, .int r2), (0, .ref 28), (1, .int x1), (2, .int x2)]) (i := 3)) ?_
  refine ai (r_iload_n (pc := 10) (k := 3) (by decide +kernel : decode k_P_Reckoning_isSuch.2.1 10 = .ok (.iload_n 2, 1)) rfl rfl) ?_
  rcases ite_some h with ⟨c3, h⟩ | ⟨c3, h⟩
  · refine ai (r_tableIn (pc := 11) (tgt := 40) (off := 29) (by decide +kernel : decode k_P_Reckoning_isSuch.2.1 11 = .ok (.tableswitch (89) (0) (3) #[29, 31, 48, 68], 29)) (by rw [c3]; decide) (by rw [c3]; decide) (by rw [c3]; decide +kernel) (by decide)) ?_
    refine ai (r_iload_n (pc := 40) (k := 0) (by decide +kernel : decode k_P_Reckoning_isSuch.2.1 40 = .ok (.iload_n 3, 1)) rfl rfl) ?_
    obtain ⟨z4, h⟩ := gz_some h
    cases h
    exact ⟨r_zret z4 rfl (by decide +kernel : decode k_P_Reckoning_isSuch.2.1 41 = .ok (.ireturn, 1)), hL⟩
  · skip
    rcases ite_some h with ⟨c5, h⟩ | ⟨c5, h⟩
    · refine ai (r_tableIn (pc := 11) (tgt := 42) (off := 31) (by decide +kernel : decode k_P_Reckoning_isSuch.2.1 11 = .ok (.tableswitch (89) (0) (3) #[29, 31, 48, 68], 29)) (by rw [c5]; decide) (by rw [c5]; decide) (by rw [c5]; decide +kernel) (by decide)) ?_
      refine ai (p_aload_n (pc := 42) (k := 1) (by decide +kernel : decode k_P_Reckoning_isSuch.2.1 42 = .ok (.aload_n 0, 1)) rfl rfl) ?_
      refine ai (p_getr (pc := 43) (PR_1030_28 hL) (by decide +kernel : decode k_P_Reckoning_isSuch.2.1 43 = .ok (.getfield 17, 3)) lg_8_17 (PC_28 hL).1) ?_
      refine ai (r_iload_n (pc := 46) (k := 2) (by decide +kernel : decode k_P_Reckoning_isSuch.2.1 46 = .ok (.iload_n 1, 1)) rfl rfl) ?_
      obtain ⟨g6, h⟩ := gd_some h
      refine ai (p_iald (pc := 47) (by decide +kernel : decode k_P_Reckoning_isSuch.2.1 47 = .ok (.iaload, 1)) (PC_30 hL).1 (PC_30 hL).2 g6) ?_
      refine ai (r_bipush (pc := 48) (by decide +kernel : decode k_P_Reckoning_isSuch.2.1 48 = .ok (.bipush (-2), 2)) (by decide : _ = (-2 : Int32))) ?_
      rcases ite_some h with ⟨c7, h⟩ | ⟨c7, h⟩
      · refine ai (r_icmp_ne_f (pc := 50) 57 (by decide +kernel : decode k_P_Reckoning_isSuch.2.1 50 = .ok (.if_icmp .ne (7), 3)) (by decide) c7) ?_
        refine ai (r_iconst (pc := 53) (by decide +kernel : decode k_P_Reckoning_isSuch.2.1 53 = .ok (.iconst 1, 1)) ic_1) ?_
        refine ai (r_goto (pc := 54) (tgt := 58) (by decide +kernel : decode k_P_Reckoning_isSuch.2.1 54 = .ok (.goto (4), 3)) (by decide)) ?_
        cases h
        exact ⟨r_zret (by decide) rfl (by decide +kernel : decode k_P_Reckoning_isSuch.2.1 58 = .ok (.ireturn, 1)), hL⟩
      · refine ai (r_icmp_ne_t (pc := 50) (tgt := 57) (by decide +kernel : decode k_P_Reckoning_isSuch.2.1 50 = .ok (.if_icmp .ne (7), 3)) (by decide) c7) ?_
        refine ai (r_iconst (pc := 57) (by decide +kernel : decode k_P_Reckoning_isSuch.2.1 57 = .ok (.iconst 0, 1)) ic_0) ?_
        cases h
        exact ⟨r_zret (by decide) rfl (by decide +kernel : decode k_P_Reckoning_isSuch.2.1 58 = .ok (.ireturn, 1)), hL⟩
    · skip
      rcases ite_some h with ⟨c8, h⟩ | ⟨c8, h⟩
      · refine ai (r_tableIn (pc := 11) (tgt := 59) (off := 48) (by decide +kernel : decode k_P_Reckoning_isSuch.2.1 11 = .ok (.tableswitch (89) (0) (3) #[29, 31, 48, 68], 29)) (by rw [c8]; decide) (by rw [c8]; decide) (by rw [c8]; decide +kernel) (by decide)) ?_
        refine ai (r_iload_n (pc := 59) (k := 0) (by decide +kernel : decode k_P_Reckoning_isSuch.2.1 59 = .ok (.iload_n 3, 1)) rfl rfl) ?_
        rcases ite_some h with ⟨c9, h⟩ | ⟨c9, h⟩
        · refine ai (r_if_eq_t (pc := 60) (tgt := 77) (by decide +kernel : decode k_P_Reckoning_isSuch.2.1 60 = .ok (.ifCond .eq (17), 3)) (by decide) c9) ?_
          refine ai (r_iconst (pc := 77) (by decide +kernel : decode k_P_Reckoning_isSuch.2.1 77 = .ok (.iconst 0, 1)) ic_0) ?_
          cases h
          exact ⟨r_zret (by decide) rfl (by decide +kernel : decode k_P_Reckoning_isSuch.2.1 78 = .ok (.ireturn, 1)), hL⟩
        · refine ai (r_if_eq_f (pc := 60) 77 (by decide +kernel : decode k_P_Reckoning_isSuch.2.1 60 = .ok (.ifCond .eq (17), 3)) (by decide) c9) ?_
          refine ai (p_aload_n (pc := 63) (k := 1) (by decide +kernel : decode k_P_Reckoning_isSuch.2.1 63 = .ok (.aload_n 0, 1)) rfl rfl) ?_
          refine ai (p_getr (pc := 64) (PR_1033_28 hL) (by decide +kernel : decode k_P_Reckoning_isSuch.2.1 64 = .ok (.getfield 24, 3)) lg_8_24 (PC_28 hL).1) ?_
          refine ai (r_iload_n (pc := 67) (k := 2) (by decide +kernel : decode k_P_Reckoning_isSuch.2.1 67 = .ok (.iload_n 1, 1)) rfl rfl) ?_
          obtain ⟨g10, h⟩ := gd_some h
          refine ai (p_iald (pc := 68) (by decide +kernel : decode k_P_Reckoning_isSuch.2.1 68 = .ok (.iaload, 1)) (PC_32 hL).1 (PC_32 hL).2 g10) ?_
          refine ai (r_iconst (pc := 69) (by decide +kernel : decode k_P_Reckoning_isSuch.2.1 69 = .ok (.iconst (-1), 1)) ic_m1) ?_
          rcases ite_some h with ⟨c11, h⟩ | ⟨c11, h⟩
          · refine ai (r_icmp_ne_f (pc := 70) 77 (by decide +kernel : decode k_P_Reckoning_isSuch.2.1 70 = .ok (.if_icmp .ne (7), 3)) (by decide) c11) ?_
            refine ai (r_iconst (pc := 73) (by decide +kernel : decode k_P_Reckoning_isSuch.2.1 73 = .ok (.iconst 1, 1)) ic_1) ?_
            refine ai (r_goto (pc := 74) (tgt := 78) (by decide +kernel : decode k_P_Reckoning_isSuch.2.1 74 = .ok (.goto (4), 3)) (by decide)) ?_
            cases h
            exact ⟨r_zret (by decide) rfl (by decide +kernel : decode k_P_Reckoning_isSuch.2.1 78 = .ok (.ireturn, 1)), hL⟩
          · refine ai (r_icmp_ne_t (pc := 70) (tgt := 77) (by decide +kernel : decode k_P_Reckoning_isSuch.2.1 70 = .ok (.if_icmp .ne (7), 3)) (by decide) c11) ?_
            refine ai (r_iconst (pc := 77) (by decide +kernel : decode k_P_Reckoning_isSuch.2.1 77 = .ok (.iconst 0, 1)) ic_0) ?_
            cases h
            exact ⟨r_zret (by decide) rfl (by decide +kernel : decode k_P_Reckoning_isSuch.2.1 78 = .ok (.ireturn, 1)), hL⟩
      · skip
        rcases ite_some h with ⟨c12, h⟩ | ⟨c12, h⟩
        · refine ai (r_tableIn (pc := 11) (tgt := 79) (off := 68) (by decide +kernel : decode k_P_Reckoning_isSuch.2.1 11 = .ok (.tableswitch (89) (0) (3) #[29, 31, 48, 68], 29)) (by rw [c12]; decide) (by rw [c12]; decide) (by rw [c12]; decide +kernel) (by decide)) ?_
          refine ai (r_iload_n (pc := 79) (k := 0) (by decide +kernel : decode k_P_Reckoning_isSuch.2.1 79 = .ok (.iload_n 3, 1)) rfl rfl) ?_
          rcases ite_some h with ⟨c13, h⟩ | ⟨c13, h⟩
          · refine ai (r_if_eq_t (pc := 80) (tgt := 98) (by decide +kernel : decode k_P_Reckoning_isSuch.2.1 80 = .ok (.ifCond .eq (18), 3)) (by decide) c13) ?_
            refine ai (r_iconst (pc := 98) (by decide +kernel : decode k_P_Reckoning_isSuch.2.1 98 = .ok (.iconst 0, 1)) ic_0) ?_
            cases h
            exact ⟨r_zret (by decide) rfl (by decide +kernel : decode k_P_Reckoning_isSuch.2.1 99 = .ok (.ireturn, 1)), hL⟩
          · refine ai (r_if_eq_f (pc := 80) 98 (by decide +kernel : decode k_P_Reckoning_isSuch.2.1 80 = .ok (.ifCond .eq (18), 3)) (by decide) c13) ?_
            refine ai (p_aload_n (pc := 83) (k := 1) (by decide +kernel : decode k_P_Reckoning_isSuch.2.1 83 = .ok (.aload_n 0, 1)) rfl rfl) ?_
            refine ai (p_getr (pc := 84) (PR_1033_28 hL) (by decide +kernel : decode k_P_Reckoning_isSuch.2.1 84 = .ok (.getfield 24, 3)) lg_8_24 (PC_28 hL).1) ?_
            refine ai (r_iload_n (pc := 87) (k := 2) (by decide +kernel : decode k_P_Reckoning_isSuch.2.1 87 = .ok (.iload_n 1, 1)) rfl rfl) ?_
            obtain ⟨g14, h⟩ := gd_some h
            refine ai (p_iald (pc := 88) (by decide +kernel : decode k_P_Reckoning_isSuch.2.1 88 = .ok (.iaload, 1)) (PC_32 hL).1 (PC_32 hL).2 g14) ?_
            refine ai (r_bipush (pc := 89) (by decide +kernel : decode k_P_Reckoning_isSuch.2.1 89 = .ok (.bipush (-2), 2)) (by decide : _ = (-2 : Int32))) ?_
            rcases ite_some h with ⟨c15, h⟩ | ⟨c15, h⟩
            · refine ai (r_icmp_ne_f (pc := 91) 98 (by decide +kernel : decode k_P_Reckoning_isSuch.2.1 91 = .ok (.if_icmp .ne (7), 3)) (by decide) c15) ?_
              refine ai (r_iconst (pc := 94) (by decide +kernel : decode k_P_Reckoning_isSuch.2.1 94 = .ok (.iconst 1, 1)) ic_1) ?_
              refine ai (r_goto (pc := 95) (tgt := 99) (by decide +kernel : decode k_P_Reckoning_isSuch.2.1 95 = .ok (.goto (4), 3)) (by decide)) ?_
              cases h
              exact ⟨r_zret (by decide) rfl (by decide +kernel : decode k_P_Reckoning_isSuch.2.1 99 = .ok (.ireturn, 1)), hL⟩
            · refine ai (r_icmp_ne_t (pc := 91) (tgt := 98) (by decide +kernel : decode k_P_Reckoning_isSuch.2.1 91 = .ok (.if_icmp .ne (7), 3)) (by decide) c15) ?_
              refine ai (r_iconst (pc := 98) (by decide +kernel : decode k_P_Reckoning_isSuch.2.1 98 = .ok (.iconst 0, 1)) ic_0) ?_
              cases h
              exact ⟨r_zret (by decide) rfl (by decide +kernel : decode k_P_Reckoning_isSuch.2.1 99 = .ok (.ireturn, 1)), hL⟩
        · skip
          have ho := tab_out (x := x2) 0 4 (by decide) (by decide) (fun k hk => by
            rcases (show k = 0 ∨ k = 1 ∨ k = 2 ∨ k = 3 by omega) with rfl | rfl | rfl | rfl
            · exact fun z => c3 (z.trans (by decide))
            · exact fun z => c5 (z.trans (by decide))
            · exact fun z => c8 (z.trans (by decide))
            · exact fun z => c12 (z.trans (by decide)))
          refine ai (r_tableOut (pc := 11) (tgt := 100) (by decide +kernel : decode k_P_Reckoning_isSuch.2.1 11 = .ok (.tableswitch (89) (0) (3) #[29, 31, 48, 68], 29)) (by simpa using ho) (by decide)) ?_
          refine ai (p_aload_n (pc := 100) (k := 1) (by decide +kernel : decode k_P_Reckoning_isSuch.2.1 100 = .ok (.aload_n 0, 1)) rfl rfl) ?_
          refine ai (p_getr (pc := 101) (PR_1034_28 hL) (by decide +kernel : decode k_P_Reckoning_isSuch.2.1 101 = .ok (.getfield 29, 3)) lg_8_29 (PC_28 hL).1) ?_
          refine ai (r_iload_n (pc := 104) (k := 2) (by decide +kernel : decode k_P_Reckoning_isSuch.2.1 104 = .ok (.iload_n 1, 1)) rfl rfl) ?_
          obtain ⟨g16, h⟩ := gd_some h
          refine ai (p_aald (pc := 105) (j := 1) (by decide) (by decide +kernel : decode k_P_Reckoning_isSuch.2.1 105 = .ok (.aaload, 1)) (PC_33 hL).1 (PC_33 hL).2 g16) ?_
          rcases ite_some h with ⟨c17, h⟩ | ⟨c17, h⟩
          · refine ai (d_ifnull_t (pc := 106) (tgt := 132) c17 (by decide +kernel : decode k_P_Reckoning_isSuch.2.1 106 = .ok (.ifnull (26), 3)) (by decide)) ?_
            refine ai (r_iconst (pc := 132) (by decide +kernel : decode k_P_Reckoning_isSuch.2.1 132 = .ok (.iconst 0, 1)) ic_0) ?_
            cases h
            exact ⟨r_zret (by decide) rfl (by decide +kernel : decode k_P_Reckoning_isSuch.2.1 133 = .ok (.ireturn, 1)), hL⟩
          · refine ai (d_ifnull_f (pc := 106) c17 (by decide +kernel : decode k_P_Reckoning_isSuch.2.1 106 = .ok (.ifnull (26), 3))) ?_
            refine ai (p_aload_n (pc := 109) (k := 1) (by decide +kernel : decode k_P_Reckoning_isSuch.2.1 109 = .ok (.aload_n 0, 1)) rfl rfl) ?_
            refine ai (p_getr (pc := 110) (PR_1035_28 hL) (by decide +kernel : decode k_P_Reckoning_isSuch.2.1 110 = .ok (.getfield 33, 3)) lg_8_33 (PC_28 hL).1) ?_
            refine ai (r_iload_n (pc := 113) (k := 2) (by decide +kernel : decode k_P_Reckoning_isSuch.2.1 113 = .ok (.iload_n 1, 1)) rfl rfl) ?_
            obtain ⟨g18, h⟩ := gd_some h
            refine ai (p_iald (pc := 114) (by decide +kernel : decode k_P_Reckoning_isSuch.2.1 114 = .ok (.iaload, 1)) (PC_34 hL).1 (PC_34 hL).2 g18) ?_
            refine ai (r_iconst (pc := 115) (by decide +kernel : decode k_P_Reckoning_isSuch.2.1 115 = .ok (.iconst (-1), 1)) ic_m1) ?_
            rcases ite_some h with ⟨c19, h⟩ | ⟨c19, h⟩
            · refine ai (r_icmp_ne_f (pc := 116) 132 (by decide +kernel : decode k_P_Reckoning_isSuch.2.1 116 = .ok (.if_icmp .ne (16), 3)) (by decide) c19) ?_
              refine ai (p_aload_n (pc := 119) (k := 1) (by decide +kernel : decode k_P_Reckoning_isSuch.2.1 119 = .ok (.aload_n 0, 1)) rfl rfl) ?_
              refine ai (p_getr (pc := 120) (PR_1039_28 hL) (by decide +kernel : decode k_P_Reckoning_isSuch.2.1 120 = .ok (.getfield 45, 3)) lg_8_45 (PC_28 hL).1) ?_
              refine ai (r_iload_n (pc := 123) (k := 2) (by decide +kernel : decode k_P_Reckoning_isSuch.2.1 123 = .ok (.iload_n 1, 1)) rfl rfl) ?_
              obtain ⟨g20, h⟩ := gd_some h
              refine ai (p_iald (pc := 124) (by decide +kernel : decode k_P_Reckoning_isSuch.2.1 124 = .ok (.iaload, 1)) (PC_38 hL).1 (PC_38 hL).2 g20) ?_
              rcases ite_some h with ⟨c21, h⟩ | ⟨c21, h⟩
              · refine ai (r_if_ne_f (pc := 125) 132 (by decide +kernel : decode k_P_Reckoning_isSuch.2.1 125 = .ok (.ifCond .ne (7), 3)) (by decide) c21) ?_
                refine ai (r_iconst (pc := 128) (by decide +kernel : decode k_P_Reckoning_isSuch.2.1 128 = .ok (.iconst 1, 1)) ic_1) ?_
                refine ai (r_goto (pc := 129) (tgt := 133) (by decide +kernel : decode k_P_Reckoning_isSuch.2.1 129 = .ok (.goto (4), 3)) (by decide)) ?_
                cases h
                exact ⟨r_zret (by decide) rfl (by decide +kernel : decode k_P_Reckoning_isSuch.2.1 133 = .ok (.ireturn, 1)), hL⟩
              · refine ai (r_if_ne_t (pc := 125) (tgt := 132) (by decide +kernel : decode k_P_Reckoning_isSuch.2.1 125 = .ok (.ifCond .ne (7), 3)) (by decide) c21) ?_
                refine ai (r_iconst (pc := 132) (by decide +kernel : decode k_P_Reckoning_isSuch.2.1 132 = .ok (.iconst 0, 1)) ic_0) ?_
                cases h
                exact ⟨r_zret (by decide) rfl (by decide +kernel : decode k_P_Reckoning_isSuch.2.1 133 = .ok (.ireturn, 1)), hL⟩
            · refine ai (r_icmp_ne_t (pc := 116) (tgt := 132) (by decide +kernel : decode k_P_Reckoning_isSuch.2.1 116 = .ok (.if_icmp .ne (16), 3)) (by decide) c19) ?_
              refine ai (r_iconst (pc := 132) (by decide +kernel : decode k_P_Reckoning_isSuch.2.1 132 = .ok (.iconst 0, 1)) ic_0) ?_
              cases h
              exact ⟨r_zret (by decide) rfl (by decide +kernel : decode k_P_Reckoning_isSuch.2.1 133 = .ok (.ireturn, 1)), hL⟩
set_option maxRecDepth 100000 in
set_option maxHeartbeats 4000000 in
theorem P_halves_81_run {k38 : Int32 → Int32 → Int32 → Mem → Option (Int32 × Mem)} {k57 : Int32 → Int32 → Int32 → Int32 → Mem → Option (Int32 × Mem)} {x4 : Int32} {x5 : Int32} {x6 : Int32} {x7 : Int32} {m m' : Mem} {r : Int32} (hk38 : ∀ (x4 : Int32) (x5 : Int32) (x6 : Int32) (m : Mem) (r : Int32) (m' : Mem), PL m → k38 x4 x5 x6 m = some (r, m') → Run k_P_halves 38 [(0, .ref 0), (4, .int x4), (5, .int x5), (6, .int x6)] [] m (some (.int r)) m' ∧ PL m') (hk57 : ∀ (x4 : Int32) (x5 : Int32) (x6 : Int32) (x7 : Int32) (m : Mem) (r : Int32) (m' : Mem), PL m → k57 x4 x5 x6 x7 m = some (r, m') → Run k_P_halves 57 [(0, .ref 0), (4, .int x4), (5, .int x5), (6, .int x6), (7, .int x7)] [] m (some (.int r)) m' ∧ PL m') (hL : PL m) (h : P_halves_81 k38 k57 x4 x5 x6 x7 m = some (r, m')) : Run k_P_halves 81 [(0, .ref 0), (4, .int x4), (5, .int x5), (6, .int x6), (7, .int x7)] [] m (some (.int r)) m' ∧ PL m' := by
  unfold P_halves_81 at h
  obtain ⟨v1, hv1, h⟩ := vb_some h
  refine ai (e_iinc (pc := 81) (k := 4) hv1 ic_1 (by decide +kernel : decode k_P_halves.2.1 81 = .ok (.iinc 7 (1), 3)) rfl (by decide) rfl (ls2 := [(7, .int v1), (0, .ref 0), (4, .int x4), (5, .int x5), (6, .int x6)]) (i := 7)) ?_
  refine ai (r_goto (pc := 84) (tgt := 57) (by decide +kernel : decode k_P_halves.2.1 84 = .ok (.goto (-27), 3)) (by decide)) ?_
  exact (ai (r_sub [1, 2, 3, 4, 0] rfl) (hk57 x4 x5 x6 v1 m _ _ hL h))
set_option maxRecDepth 100000 in
set_option maxHeartbeats 4000000 in
theorem P_halves_87_run {k38 : Int32 → Int32 → Int32 → Mem → Option (Int32 × Mem)} {x4 : Int32} {x5 : Int32} {x6 : Int32} {m m' : Mem} {r : Int32} (hk38 : ∀ (x4 : Int32) (x5 : Int32) (x6 : Int32) (m : Mem) (r : Int32) (m' : Mem), PL m → k38 x4 x5 x6 m = some (r, m') → Run k_P_halves 38 [(0, .ref 0), (4, .int x4), (5, .int x5), (6, .int x6)] [] m (some (.int r)) m' ∧ PL m') (hL : PL m) (h : P_halves_87 k38 x4 x5 x6 m = some (r, m')) : Run k_P_halves 87 [(0, .ref 0), (4, .int x4), (5, .int x5), (6, .int x6)] [] m (some (.int r)) m' ∧ PL m' := by
  unfold P_halves_87 at h
  obtain ⟨v1, hv1, h⟩ := vb_some h
  refine ai (e_iinc (pc := 87) (k := 3) hv1 ic_1 (by decide +kernel : decode k_P_halves.2.1 87 = .ok (.iinc 6 (1), 3)) rfl (by decide) rfl (ls2 := [(6, .int v1), (0, .ref 0), (4, .int x4), (5, .int x5)]) (i := 6)) ?_
  refine ai (r_goto (pc := 90) (tgt := 38) (by decide +kernel : decode k_P_halves.2.1 90 = .ok (.goto (-52), 3)) (by decide)) ?_
  exact (ai (r_sub [1, 2, 3, 0] rfl) (hk38 x4 x5 v1 m _ _ hL h))
set_option maxRecDepth 100000 in
set_option maxHeartbeats 4000000 in
theorem P_halves_57_run {k38 : Int32 → Int32 → Int32 → Mem → Option (Int32 × Mem)} {n : Nat} {x4 : Int32} {x5 : Int32} {x6 : Int32} {x7 : Int32} {m m' : Mem} {r : Int32} (hk38 : ∀ (x4 : Int32) (x5 : Int32) (x6 : Int32) (m : Mem) (r : Int32) (m' : Mem), PL m → k38 x4 x5 x6 m = some (r, m') → Run k_P_halves 38 [(0, .ref 0), (4, .int x4), (5, .int x5), (6, .int x6)] [] m (some (.int r)) m' ∧ PL m') (hL : PL m) (h : P_halves_57 k38 n x4 x5 x6 x7 m = some (r, m')) : Run k_P_halves 57 [(0, .ref 0), (4, .int x4), (5, .int x5), (6, .int x6), (7, .int x7)] [] m (some (.int r)) m' ∧ PL m' := by
  induction n generalizing x4 x5 x6 x7 m r m' with
  | zero => exact absurd h (by simp [P_halves_57])
  | succ n ih =>
    rw [P_halves_57.eq_2] at h
    refine ai (r_iload (pc := 57) (k := 4) (by decide +kernel : decode k_P_halves.2.1 57 = .ok (.iload 7, 2)) rfl) ?_
    refine ai (r_bipush (pc := 59) (by decide +kernel : decode k_P_halves.2.1 59 = .ok (.bipush (48), 2)) (by decide : _ = (48 : Int32))) ?_
    rcases ite_some h with ⟨c1, h⟩ | ⟨c1, h⟩
    · refine ai (r_icmp_ge_t (pc := 61) (tgt := 87) (by decide +kernel : decode k_P_halves.2.1 61 = .ok (.if_icmp .ge (26), 3)) (by decide) c1) ?_
      exact (ai (r_sub [0, 1, 2, 3] rfl) (P_halves_87_run hk38 hL h))
    · refine ai (r_icmp_ge_f (pc := 61) 87 (by decide +kernel : decode k_P_halves.2.1 61 = .ok (.if_icmp .ge (26), 3)) (by decide) c1) ?_
      refine ai (p_aload_n (pc := 64) (k := 0) (by decide +kernel : decode k_P_halves.2.1 64 = .ok (.aload_n 0, 1)) rfl rfl) ?_
      refine ai (p_getr (pc := 65) (PR_1413_0 hL) (by decide +kernel : decode k_P_halves.2.1 65 = .ok (.getfield 60, 3)) lg_11_60 (PC_0 hL).1) ?_
      refine ai (r_iload (pc := 68) (k := 4) (by decide +kernel : decode k_P_halves.2.1 68 = .ok (.iload 7, 2)) rfl) ?_
      refine ai (r_iload (pc := 70) (k := 1) (by decide +kernel : decode k_P_halves.2.1 70 = .ok (.iload 4, 2)) rfl) ?_
      obtain ⟨r2, m3, hr2, h⟩ := bn_some h
      have q4 := P_Reckoning_isSuch_run hL hr2
      have c5 := (PC_28 hL).1
      have hL := q4.2
      refine ai (q_callV (pc := 72) (As := [.int x7, .int x4]) (st := []) (st2 := [.int r2]) (b := 28) rfl rfl (by decide +kernel : decode k_P_halves.2.1 72 = .ok (.invokevirtual 312, 3)) lc_11_312 mo_P_Reckoning_isSuch ⟨Nat.le_of_ble_eq_true rfl, Nat.le_of_ble_eq_true rfl⟩ (Nat.le_of_ble_eq_true rfl) (Nat.le_of_ble_eq_true rfl) c5 q4.1) ?_
      rcases ite_some h with ⟨c6, h⟩ | ⟨c6, h⟩
      · refine ai (r_if_eq_t (pc := 75) (tgt := 81) (by decide +kernel : decode k_P_halves.2.1 75 = .ok (.ifCond .eq (6), 3)) (by decide) c6) ?_
        exact (P_halves_81_run hk38 (fun _ _ _ _ _ _ _ q1 q3 => ih q1 q3) hL h)
      · refine ai (r_if_eq_f (pc := 75) 81 (by decide +kernel : decode k_P_halves.2.1 75 = .ok (.ifCond .eq (6), 3)) (by decide) c6) ?_
        obtain ⟨v7, hv7, h⟩ := vb_some h
        refine ai (e_iinc (pc := 78) (k := 2) hv7 ic_1 (by decide +kernel : decode k_P_halves.2.1 78 = .ok (.iinc 5 (1), 3)) rfl (by decide) rfl (ls2 := [(5, .int v7), (0, .ref 0), (4, .int x4), (6, .int x6), (7, .int x7)]) (i := 5)) ?_
        exact (ai (r_sub [1, 2, 0, 3, 4] rfl) (P_halves_81_run hk38 (fun _ _ _ _ _ _ _ q1 q3 => ih q1 q3) hL h))
set_option maxRecDepth 100000 in
set_option maxHeartbeats 4000000 in
theorem P_halves_38_run {n : Nat} {x4 : Int32} {x5 : Int32} {x6 : Int32} {m m' : Mem} {r : Int32} (hL : PL m) (h : P_halves_38 n x4 x5 x6 m = some (r, m')) : Run k_P_halves 38 [(0, .ref 0), (4, .int x4), (5, .int x5), (6, .int x6)] [] m (some (.int r)) m' ∧ PL m' := by
  induction n generalizing x4 x5 x6 m r m' with
  | zero => exact absurd h (by simp [P_halves_38])
  | succ n ih =>
    rw [P_halves_38.eq_2] at h
    refine ai (r_iload (pc := 38) (k := 3) (by decide +kernel : decode k_P_halves.2.1 38 = .ok (.iload 6, 2)) rfl) ?_
    refine ai (r_bipush (pc := 40) (by decide +kernel : decode k_P_halves.2.1 40 = .ok (.bipush (7), 2)) (by decide : _ = (7 : Int32))) ?_
    rcases ite_some h with ⟨c1, h⟩ | ⟨c1, h⟩
    · refine ai (r_icmp_ge_t (pc := 42) (tgt := 93) (by decide +kernel : decode k_P_halves.2.1 42 = .ok (.if_icmp .ge (51), 3)) (by decide) c1) ?_
      refine ai (r_iload (pc := 93) (k := 2) (by decide +kernel : decode k_P_halves.2.1 93 = .ok (.iload 5, 2)) rfl) ?_
      cases h
      exact ⟨r_iret rfl (by decide +kernel : decode k_P_halves.2.1 95 = .ok (.ireturn, 1)), hL⟩
    · refine ai (r_icmp_ge_f (pc := 42) 93 (by decide +kernel : decode k_P_halves.2.1 42 = .ok (.if_icmp .ge (51), 3)) (by decide) c1) ?_
      refine ai (p_aload_n (pc := 45) (k := 0) (by decide +kernel : decode k_P_halves.2.1 45 = .ok (.aload_n 0, 1)) rfl rfl) ?_
      refine ai (p_getr (pc := 46) (PR_1413_0 hL) (by decide +kernel : decode k_P_halves.2.1 46 = .ok (.getfield 60, 3)) lg_11_60 (PC_0 hL).1) ?_
      refine ai (r_iload (pc := 49) (k := 3) (by decide +kernel : decode k_P_halves.2.1 49 = .ok (.iload 6, 2)) rfl) ?_
      obtain ⟨r2, m3, hr2, h⟩ := bn_some h
      have q4 := P_Reckoning_reckon_run hL hr2
      have c5 := (PC_28 hL).1
      have hL := q4.2
      refine ai (q_callV (pc := 51) (As := [.int x6]) (st := []) (st2 := []) (b := 28) rfl rfl (by decide +kernel : decode k_P_halves.2.1 51 = .ok (.invokevirtual 303, 3)) lc_11_303 mo_P_Reckoning_reckon ⟨Nat.le_of_ble_eq_true rfl, Nat.le_of_ble_eq_true rfl⟩ (Nat.le_of_ble_eq_true rfl) (Nat.le_of_ble_eq_true rfl) c5 q4.1) ?_
      refine ai (r_iconst (pc := 54) (by decide +kernel : decode k_P_halves.2.1 54 = .ok (.iconst 0, 1)) ic_0) ?_
      refine ai (e_istore (pc := 55) rfl (by decide +kernel : decode k_P_halves.2.1 55 = .ok (.istore 7, 2)) (by decide) rfl (ls2 := [(7, .int 0), (0, .ref 0), (4, .int x4), (5, .int x5), (6, .int x6)]) (i := 7)) ?_
      exact (ai (r_sub [1, 2, 3, 4, 0] rfl) (P_halves_57_run (fun _ _ _ _ _ _ q1 q3 => ih q1 q3) hL h))
set_option maxRecDepth 100000 in
set_option maxHeartbeats 4000000 in
theorem P_halves_run {x1 : Int32} {x2 : Int32} {x3 : Int32} {x4 : Int32} {m m' : Mem} {r : Int32} (hL : PL m) (h : P_halves x1 x2 x3 x4 m = some (r, m')) : Run k_P_halves 0 [(0, .ref 0), (1, .int x1), (2, .int x2), (3, .int x3), (4, .int x4)] [] m (some (.int r)) m' ∧ PL m' := by
  unfold P_halves at h
  refine ai (p_aload_n (pc := 0) (k := 0) (by decide +kernel : decode k_P_halves.2.1 0 = .ok (.aload_n 0, 1)) rfl rfl) ?_
  refine ai (r_iload_n (pc := 1) (k := 1) (by decide +kernel : decode k_P_halves.2.1 1 = .ok (.iload_n 1, 1)) rfl rfl) ?_
  refine ai (r_iload_n (pc := 2) (k := 2) (by decide +kernel : decode k_P_halves.2.1 2 = .ok (.iload_n 2, 1)) rfl rfl) ?_
  refine ai (r_iload_n (pc := 3) (k := 3) (by decide +kernel : decode k_P_halves.2.1 3 = .ok (.iload_n 3, 1)) rfl rfl) ?_
  obtain ⟨r1, m2, hr1, h⟩ := bn_some h
  have q3 := P_isWeekOf_run hL hr1
  have c4 := (PC_0 hL).1
  have hL := q3.2
  refine ai (q_callV (pc := 4) (As := [.int x1, .int x2, .int x3]) (st := []) (st2 := [.int r1]) (b := 0) rfl rfl (by decide +kernel : decode k_P_halves.2.1 4 = .ok (.invokevirtual 306, 3)) lc_11_306 mo_P_isWeekOf ⟨Nat.le_of_ble_eq_true rfl, Nat.le_of_ble_eq_true rfl⟩ (Nat.le_of_ble_eq_true rfl) (Nat.le_of_ble_eq_true rfl) c4 q3.1) ?_
  rcases ite_some h with ⟨c5, h⟩ | ⟨c5, h⟩
  · refine ai (r_if_eq_t (pc := 7) (tgt := 20) (by decide +kernel : decode k_P_halves.2.1 7 = .ok (.ifCond .eq (13), 3)) (by decide) c5) ?_
    refine ai (r_iconst (pc := 20) (by decide +kernel : decode k_P_halves.2.1 20 = .ok (.iconst (-1), 1)) ic_m1) ?_
    cases h
    exact ⟨r_iret rfl (by decide +kernel : decode k_P_halves.2.1 21 = .ok (.ireturn, 1)), hL⟩
  · refine ai (r_if_eq_f (pc := 7) 20 (by decide +kernel : decode k_P_halves.2.1 7 = .ok (.ifCond .eq (13), 3)) (by decide) c5) ?_
    refine ai (r_iload (pc := 10) (k := 4) (by decide +kernel : decode k_P_halves.2.1 10 = .ok (.iload 4, 2)) rfl) ?_
    refine ai (r_iconst (pc := 12) (by decide +kernel : decode k_P_halves.2.1 12 = .ok (.iconst 0, 1)) ic_0) ?_
    refine ai (r_iconst (pc := 13) (by decide +kernel : decode k_P_halves.2.1 13 = .ok (.iconst 4, 1)) ic_4) ?_
    obtain ⟨r6, hr6, h⟩ := bp_some h
    refine ai (q_callS (pc := 14) (As := [.int x4, .int 0, .int 4]) (st := []) (st2 := [.int r6]) rfl rfl (by decide +kernel : decode k_P_halves.2.1 14 = .ok (.invokestatic 117, 3)) lc_11_117 mo_P_within ⟨Nat.le_of_ble_eq_true rfl, Nat.le_of_ble_eq_true rfl⟩ (Nat.le_of_ble_eq_true rfl) (Nat.le_of_ble_eq_true rfl) (P_within_run hr6)) ?_
    rcases ite_some h with ⟨c7, h⟩ | ⟨c7, h⟩
    · refine ai (r_if_ne_f (pc := 17) 22 (by decide +kernel : decode k_P_halves.2.1 17 = .ok (.ifCond .ne (5), 3)) (by decide) c7) ?_
      refine ai (r_iconst (pc := 20) (by decide +kernel : decode k_P_halves.2.1 20 = .ok (.iconst (-1), 1)) ic_m1) ?_
      cases h
      exact ⟨r_iret rfl (by decide +kernel : decode k_P_halves.2.1 21 = .ok (.ireturn, 1)), hL⟩
    · refine ai (r_if_ne_t (pc := 17) (tgt := 22) (by decide +kernel : decode k_P_halves.2.1 17 = .ok (.ifCond .ne (5), 3)) (by decide) c7) ?_
      refine ai (p_aload_n (pc := 22) (k := 0) (by decide +kernel : decode k_P_halves.2.1 22 = .ok (.aload_n 0, 1)) rfl rfl) ?_
      refine ai (p_getr (pc := 23) (PR_1413_0 hL) (by decide +kernel : decode k_P_halves.2.1 23 = .ok (.getfield 60, 3)) lg_11_60 (PC_0 hL).1) ?_
      refine ai (r_iload_n (pc := 26) (k := 1) (by decide +kernel : decode k_P_halves.2.1 26 = .ok (.iload_n 1, 1)) rfl rfl) ?_
      refine ai (r_iload_n (pc := 27) (k := 2) (by decide +kernel : decode k_P_halves.2.1 27 = .ok (.iload_n 2, 1)) rfl rfl) ?_
      refine ai (r_iload_n (pc := 28) (k := 3) (by decide +kernel : decode k_P_halves.2.1 28 = .ok (.iload_n 3, 1)) rfl rfl) ?_
      obtain ⟨r8, m9, hr8, h⟩ := bn_some h
      have q10 := P_Reckoning_load_run hL hr8
      have c11 := (PC_28 hL).1
      have hL := q10.2
      refine ai (q_callV (pc := 29) (As := [.int x1, .int x2, .int x3]) (st := []) (st2 := []) (b := 28) rfl rfl (by decide +kernel : decode k_P_halves.2.1 29 = .ok (.invokevirtual 256, 3)) lc_11_256 mo_P_Reckoning_load ⟨Nat.le_of_ble_eq_true rfl, Nat.le_of_ble_eq_true rfl⟩ (Nat.le_of_ble_eq_true rfl) (Nat.le_of_ble_eq_true rfl) c11 q10.1) ?_
      refine ai (r_iconst (pc := 32) (by decide +kernel : decode k_P_halves.2.1 32 = .ok (.iconst 0, 1)) ic_0) ?_
      refine ai (e_istore (pc := 33) rfl (by decide +kernel : decode k_P_halves.2.1 33 = .ok (.istore 5, 2)) (by decide) rfl (ls2 := [(5, .int 0), (0, .ref 0), (1, .int x1), (2, .int x2), (3, .int x3), (4, .int x4)]) (i := 5)) ?_
      refine ai (r_iconst (pc := 35) (by decide +kernel : decode k_P_halves.2.1 35 = .ok (.iconst 0, 1)) ic_0) ?_
      refine ai (e_istore (pc := 36) rfl (by decide +kernel : decode k_P_halves.2.1 36 = .ok (.istore 6, 2)) (by decide) rfl (ls2 := [(6, .int 0), (5, .int 0), (0, .ref 0), (1, .int x1), (2, .int x2), (3, .int x3), (4, .int x4)]) (i := 6)) ?_
      exact (ai (r_sub [2, 6, 1, 0] rfl) (P_halves_38_run hL h))
set_option maxRecDepth 100000 in
set_option maxHeartbeats 4000000 in
theorem P_Ledger_payments_70_run {k6 : Int32 → Int32 → Int32 → Int32 → Int32 → Mem → Option (Int32 × Mem)} {x1 : Int32} {x2 : Int32} {x3 : Int32} {x4 : Int32} {x5 : Int32} {m m' : Mem} {r : Int32} (hk6 : ∀ (x1 : Int32) (x2 : Int32) (x3 : Int32) (x4 : Int32) (x5 : Int32) (m : Mem) (r : Int32) (m' : Mem), PL m → k6 x1 x2 x3 x4 x5 m = some (r, m') → Run k_P_Ledger_payments 6 [(0, .ref 13), (1, .int x1), (2, .int x2), (3, .int x3), (4, .int x4), (5, .int x5)] [] m (some (.int r)) m' ∧ PL m') (hL : PL m) (h : P_Ledger_payments_70 k6 x1 x2 x3 x4 x5 m = some (r, m')) : Run k_P_Ledger_payments 70 [(0, .ref 13), (1, .int x1), (2, .int x2), (3, .int x3), (4, .int x4), (5, .int x5)] [] m (some (.int r)) m' ∧ PL m' := by
  unfold P_Ledger_payments_70 at h
  obtain ⟨v1, hv1, h⟩ := vb_some h
  refine ai (e_iinc (pc := 70) (k := 5) hv1 ic_1 (by decide +kernel : decode k_P_Ledger_payments.2.1 70 = .ok (.iinc 5 (1), 3)) rfl (by decide) rfl (ls2 := [(5, .int v1), (0, .ref 13), (1, .int x1), (2, .int x2), (3, .int x3), (4, .int x4)]) (i := 5)) ?_
  refine ai (r_goto (pc := 73) (tgt := 6) (by decide +kernel : decode k_P_Ledger_payments.2.1 73 = .ok (.goto (-67), 3)) (by decide)) ?_
  exact (ai (r_sub [1, 2, 3, 4, 5, 0] rfl) (hk6 x1 x2 x3 x4 v1 m _ _ hL h))
set_option maxRecDepth 100000 in
set_option maxHeartbeats 4000000 in
theorem P_Ledger_payments_6_run {n : Nat} {x1 : Int32} {x2 : Int32} {x3 : Int32} {x4 : Int32} {x5 : Int32} {m m' : Mem} {r : Int32} (hL : PL m) (h : P_Ledger_payments_6 n x1 x2 x3 x4 x5 m = some (r, m')) : Run k_P_Ledger_payments 6 [(0, .ref 13), (1, .int x1), (2, .int x2), (3, .int x3), (4, .int x4), (5, .int x5)] [] m (some (.int r)) m' ∧ PL m' := by
  induction n generalizing x1 x2 x3 x4 x5 m r m' with
  | zero => exact absurd h (by simp [P_Ledger_payments_6])
  | succ n ih =>
    rw [P_Ledger_payments_6.eq_2] at h
    refine ai (r_iload (pc := 6) (k := 5) (by decide +kernel : decode k_P_Ledger_payments.2.1 6 = .ok (.iload 5, 2)) rfl) ?_
    refine ai (r_iload_n (pc := 8) (k := 3) (by decide +kernel : decode k_P_Ledger_payments.2.1 8 = .ok (.iload_n 3, 1)) rfl rfl) ?_
    rcases ite_some h with ⟨c1, h⟩ | ⟨c1, h⟩
    · refine ai (r_icmp_ge_t (pc := 9) (tgt := 76) (by decide +kernel : decode k_P_Ledger_payments.2.1 9 = .ok (.if_icmp .ge (67), 3)) (by decide) c1) ?_
      refine ai (r_iload (pc := 76) (k := 4) (by decide +kernel : decode k_P_Ledger_payments.2.1 76 = .ok (.iload 4, 2)) rfl) ?_
      cases h
      exact ⟨r_iret rfl (by decide +kernel : decode k_P_Ledger_payments.2.1 78 = .ok (.ireturn, 1)), hL⟩
    · refine ai (r_icmp_ge_f (pc := 9) 76 (by decide +kernel : decode k_P_Ledger_payments.2.1 9 = .ok (.if_icmp .ge (67), 3)) (by decide) c1) ?_
      refine ai (p_aload_n (pc := 12) (k := 0) (by decide +kernel : decode k_P_Ledger_payments.2.1 12 = .ok (.aload_n 0, 1)) rfl rfl) ?_
      refine ai (p_getr (pc := 13) (PR_512_13 hL) (by decide +kernel : decode k_P_Ledger_payments.2.1 13 = .ok (.getfield 11, 3)) lg_4_11 (PC_13 hL).1) ?_
      refine ai (r_iload (pc := 16) (k := 5) (by decide +kernel : decode k_P_Ledger_payments.2.1 16 = .ok (.iload 5, 2)) rfl) ?_
      obtain ⟨g2, h⟩ := gd_some h
      obtain ⟨a3, o4, h⟩ := gs_some h
      refine ai (p_aaldr (pc := 18) (j := 2) (by decide) o4 (by decide +kernel : decode k_P_Ledger_payments.2.1 18 = .ok (.aaload, 1)) (PC_14 hL).1 (PC_14 hL).2 g2) ?_
      obtain ⟨t5, h⟩ := gt_some h
      refine ai (r_getI (pc := 19) (by decide +kernel : decode k_P_Ledger_payments.2.1 19 = .ok (.getfield 58, 3)) lg_4_58 (by decide) t5) ?_
      refine ai (r_bipush (pc := 22) (by decide +kernel : decode k_P_Ledger_payments.2.1 22 = .ok (.bipush (9), 2)) (by decide : _ = (9 : Int32))) ?_
      rcases ite_some h with ⟨c6, h⟩ | ⟨c6, h⟩
      · refine ai (r_icmp_ne_f (pc := 24) 70 (by decide +kernel : decode k_P_Ledger_payments.2.1 24 = .ok (.if_icmp .ne (46), 3)) (by decide) c6) ?_
        refine ai (p_aload_n (pc := 27) (k := 0) (by decide +kernel : decode k_P_Ledger_payments.2.1 27 = .ok (.aload_n 0, 1)) rfl rfl) ?_
        refine ai (p_getr (pc := 28) (PR_512_13 hL) (by decide +kernel : decode k_P_Ledger_payments.2.1 28 = .ok (.getfield 11, 3)) lg_4_11 (PC_13 hL).1) ?_
        refine ai (r_iload (pc := 31) (k := 5) (by decide +kernel : decode k_P_Ledger_payments.2.1 31 = .ok (.iload 5, 2)) rfl) ?_
        obtain ⟨g7, h⟩ := gd_some h
        obtain ⟨a8, o9, h⟩ := gs_some h
        refine ai (p_aaldr (pc := 33) (j := 2) (by decide) o9 (by decide +kernel : decode k_P_Ledger_payments.2.1 33 = .ok (.aaload, 1)) (PC_14 hL).1 (PC_14 hL).2 g7) ?_
        obtain ⟨t10, h⟩ := gt_some h
        refine ai (r_getI (pc := 34) (by decide +kernel : decode k_P_Ledger_payments.2.1 34 = .ok (.getfield 59, 3)) lg_4_59 (by decide) t10) ?_
        refine ai (r_iload_n (pc := 37) (k := 1) (by decide +kernel : decode k_P_Ledger_payments.2.1 37 = .ok (.iload_n 1, 1)) rfl rfl) ?_
        rcases ite_some h with ⟨c11, h⟩ | ⟨c11, h⟩
        · refine ai (r_icmp_ne_f (pc := 38) 70 (by decide +kernel : decode k_P_Ledger_payments.2.1 38 = .ok (.if_icmp .ne (32), 3)) (by decide) c11) ?_
          refine ai (p_aload_n (pc := 41) (k := 0) (by decide +kernel : decode k_P_Ledger_payments.2.1 41 = .ok (.aload_n 0, 1)) rfl rfl) ?_
          refine ai (p_getr (pc := 42) (PR_512_13 hL) (by decide +kernel : decode k_P_Ledger_payments.2.1 42 = .ok (.getfield 11, 3)) lg_4_11 (PC_13 hL).1) ?_
          refine ai (r_iload (pc := 45) (k := 5) (by decide +kernel : decode k_P_Ledger_payments.2.1 45 = .ok (.iload 5, 2)) rfl) ?_
          obtain ⟨g12, h⟩ := gd_some h
          obtain ⟨a13, o14, h⟩ := gs_some h
          refine ai (p_aaldr (pc := 47) (j := 2) (by decide) o14 (by decide +kernel : decode k_P_Ledger_payments.2.1 47 = .ok (.aaload, 1)) (PC_14 hL).1 (PC_14 hL).2 g12) ?_
          obtain ⟨t15, h⟩ := gt_some h
          refine ai (r_getI (pc := 48) (by decide +kernel : decode k_P_Ledger_payments.2.1 48 = .ok (.getfield 65, 3)) lg_4_65 (by decide) t15) ?_
          refine ai (r_iload_n (pc := 51) (k := 2) (by decide +kernel : decode k_P_Ledger_payments.2.1 51 = .ok (.iload_n 2, 1)) rfl rfl) ?_
          rcases ite_some h with ⟨c16, h⟩ | ⟨c16, h⟩
          · refine ai (r_icmp_ne_f (pc := 52) 70 (by decide +kernel : decode k_P_Ledger_payments.2.1 52 = .ok (.if_icmp .ne (18), 3)) (by decide) c16) ?_
            refine ai (r_iload (pc := 55) (k := 4) (by decide +kernel : decode k_P_Ledger_payments.2.1 55 = .ok (.iload 4, 2)) rfl) ?_
            refine ai (p_aload_n (pc := 57) (k := 0) (by decide +kernel : decode k_P_Ledger_payments.2.1 57 = .ok (.aload_n 0, 1)) rfl rfl) ?_
            refine ai (p_getr (pc := 58) (PR_512_13 hL) (by decide +kernel : decode k_P_Ledger_payments.2.1 58 = .ok (.getfield 11, 3)) lg_4_11 (PC_13 hL).1) ?_
            refine ai (r_iload (pc := 61) (k := 5) (by decide +kernel : decode k_P_Ledger_payments.2.1 61 = .ok (.iload 5, 2)) rfl) ?_
            obtain ⟨g17, h⟩ := gd_some h
            obtain ⟨a18, o19, h⟩ := gs_some h
            refine ai (p_aaldr (pc := 63) (j := 2) (by decide) o19 (by decide +kernel : decode k_P_Ledger_payments.2.1 63 = .ok (.aaload, 1)) (PC_14 hL).1 (PC_14 hL).2 g17) ?_
            obtain ⟨t20, h⟩ := gt_some h
            refine ai (r_getI (pc := 64) (by decide +kernel : decode k_P_Ledger_payments.2.1 64 = .ok (.getfield 68, 3)) lg_4_68 (by decide) t20) ?_
            refine ai (r_iadd (pc := 67) (by decide +kernel : decode k_P_Ledger_payments.2.1 67 = .ok (.iadd, 1))) ?_
            obtain ⟨v21, hv21, h⟩ := vb_some h
            refine ai (e_istore (pc := 68) hv21 (by decide +kernel : decode k_P_Ledger_payments.2.1 68 = .ok (.istore 4, 2)) (by decide) rfl (ls2 := [(4, .int v21), (0, .ref 13), (1, .int x1), (2, .int x2), (3, .int x3), (5, .int x5)]) (i := 4)) ?_
            exact (ai (r_sub [1, 2, 3, 4, 0, 5] rfl) (P_Ledger_payments_70_run (fun _ _ _ _ _ _ _ _ q1 q3 => ih q1 q3) hL h))
          · refine ai (r_icmp_ne_t (pc := 52) (tgt := 70) (by decide +kernel : decode k_P_Ledger_payments.2.1 52 = .ok (.if_icmp .ne (18), 3)) (by decide) c16) ?_
            exact (P_Ledger_payments_70_run (fun _ _ _ _ _ _ _ _ q1 q3 => ih q1 q3) hL h)
        · refine ai (r_icmp_ne_t (pc := 38) (tgt := 70) (by decide +kernel : decode k_P_Ledger_payments.2.1 38 = .ok (.if_icmp .ne (32), 3)) (by decide) c11) ?_
          exact (P_Ledger_payments_70_run (fun _ _ _ _ _ _ _ _ q1 q3 => ih q1 q3) hL h)
      · refine ai (r_icmp_ne_t (pc := 24) (tgt := 70) (by decide +kernel : decode k_P_Ledger_payments.2.1 24 = .ok (.if_icmp .ne (46), 3)) (by decide) c6) ?_
        exact (P_Ledger_payments_70_run (fun _ _ _ _ _ _ _ _ q1 q3 => ih q1 q3) hL h)
set_option maxRecDepth 100000 in
set_option maxHeartbeats 4000000 in
theorem P_Ledger_payments_run {x1 : Int32} {x2 : Int32} {x3 : Int32} {m m' : Mem} {r : Int32} (hL : PL m) (h : P_Ledger_payments x1 x2 x3 m = some (r, m')) : Run k_P_Ledger_payments 0 [(0, .ref 13), (1, .int x1), (2, .int x2), (3, .int x3)] [] m (some (.int r)) m' ∧ PL m' := by
  unfold P_Ledger_payments at h
  refine ai (r_iconst (pc := 0) (by decide +kernel : decode k_P_Ledger_payments.2.1 0 = .ok (.iconst 0, 1)) ic_0) ?_
  refine ai (e_istore (pc := 1) rfl (by decide +kernel : decode k_P_Ledger_payments.2.1 1 = .ok (.istore 4, 2)) (by decide) rfl (ls2 := [(4, .int 0), (0, .ref 13), (1, .int x1), (2, .int x2), (3, .int x3)]) (i := 4)) ?_
  refine ai (r_iconst (pc := 3) (by decide +kernel : decode k_P_Ledger_payments.2.1 3 = .ok (.iconst 0, 1)) ic_0) ?_
  refine ai (e_istore (pc := 4) rfl (by decide +kernel : decode k_P_Ledger_payments.2.1 4 = .ok (.istore 5, 2)) (by decide) rfl (ls2 := [(5, .int 0), (4, .int 0), (0, .ref 13), (1, .int x1), (2, .int x2), (3, .int x3)]) (i := 5)) ?_
  exact (ai (r_sub [2, 3, 4, 5, 1, 0] rfl) (P_Ledger_payments_6_run hL h))
set_option maxRecDepth 100000 in
set_option maxHeartbeats 4000000 in
theorem P_owed_run {x1 : Int32} {x2 : Int32} {x3 : Int32} {m m' : Mem} {r : Int32} (hL : PL m) (h : P_owed x1 x2 x3 m = some (r, m')) : Run k_P_owed 0 [(0, .ref 0), (1, .int x1), (2, .int x2), (3, .int x3)] [] m (some (.int r)) m' ∧ PL m' := by
  unfold P_owed at h
  refine ai (p_aload_n (pc := 0) (k := 0) (by decide +kernel : decode k_P_owed.2.1 0 = .ok (.aload_n 0, 1)) rfl rfl) ?_
  refine ai (r_iload_n (pc := 1) (k := 1) (by decide +kernel : decode k_P_owed.2.1 1 = .ok (.iload_n 1, 1)) rfl rfl) ?_
  refine ai (r_iload_n (pc := 2) (k := 2) (by decide +kernel : decode k_P_owed.2.1 2 = .ok (.iload_n 2, 1)) rfl rfl) ?_
  refine ai (r_iload_n (pc := 3) (k := 3) (by decide +kernel : decode k_P_owed.2.1 3 = .ok (.iload_n 3, 1)) rfl rfl) ?_
  obtain ⟨r1, m2, hr1, h⟩ := bn_some h
  have q3 := P_isWeekOf_run hL hr1
  have c4 := (PC_0 hL).1
  have hL := q3.2
  refine ai (q_callV (pc := 4) (As := [.int x1, .int x2, .int x3]) (st := []) (st2 := [.int r1]) (b := 0) rfl rfl (by decide +kernel : decode k_P_owed.2.1 4 = .ok (.invokevirtual 306, 3)) lc_11_306 mo_P_isWeekOf ⟨Nat.le_of_ble_eq_true rfl, Nat.le_of_ble_eq_true rfl⟩ (Nat.le_of_ble_eq_true rfl) (Nat.le_of_ble_eq_true rfl) c4 q3.1) ?_
  rcases ite_some h with ⟨c5, h⟩ | ⟨c5, h⟩
  · refine ai (r_if_ne_f (pc := 7) 12 (by decide +kernel : decode k_P_owed.2.1 7 = .ok (.ifCond .ne (5), 3)) (by decide) c5) ?_
    refine ai (r_iconst (pc := 10) (by decide +kernel : decode k_P_owed.2.1 10 = .ok (.iconst 0, 1)) ic_0) ?_
    cases h
    exact ⟨r_iret rfl (by decide +kernel : decode k_P_owed.2.1 11 = .ok (.ireturn, 1)), hL⟩
  · refine ai (r_if_ne_t (pc := 7) (tgt := 12) (by decide +kernel : decode k_P_owed.2.1 7 = .ok (.ifCond .ne (5), 3)) (by decide) c5) ?_
    refine ai (p_aload_n (pc := 12) (k := 0) (by decide +kernel : decode k_P_owed.2.1 12 = .ok (.aload_n 0, 1)) rfl rfl) ?_
    refine ai (p_getr (pc := 13) (PR_1413_0 hL) (by decide +kernel : decode k_P_owed.2.1 13 = .ok (.getfield 60, 3)) lg_11_60 (PC_0 hL).1) ?_
    refine ai (r_iload_n (pc := 16) (k := 1) (by decide +kernel : decode k_P_owed.2.1 16 = .ok (.iload_n 1, 1)) rfl rfl) ?_
    refine ai (r_iload_n (pc := 17) (k := 2) (by decide +kernel : decode k_P_owed.2.1 17 = .ok (.iload_n 2, 1)) rfl rfl) ?_
    refine ai (r_iload_n (pc := 18) (k := 3) (by decide +kernel : decode k_P_owed.2.1 18 = .ok (.iload_n 3, 1)) rfl rfl) ?_
    obtain ⟨r6, m7, hr6, h⟩ := bn_some h
    have q8 := P_Reckoning_weekPay_run hL hr6
    have c9 := (PC_28 hL).1
    have hL := q8.2
    refine ai (q_callV (pc := 19) (As := [.int x1, .int x2, .int x3]) (st := []) (st2 := [.int r6]) (b := 28) rfl rfl (by decide +kernel : decode k_P_owed.2.1 19 = .ok (.invokevirtual 309, 3)) lc_11_309 mo_P_Reckoning_weekPay ⟨Nat.le_of_ble_eq_true rfl, Nat.le_of_ble_eq_true rfl⟩ (Nat.le_of_ble_eq_true rfl) (Nat.le_of_ble_eq_true rfl) c9 q8.1) ?_
    refine ai (p_aload_n (pc := 22) (k := 0) (by decide +kernel : decode k_P_owed.2.1 22 = .ok (.aload_n 0, 1)) rfl rfl) ?_
    refine ai (p_getr (pc := 23) (PR_1409_0 hL) (by decide +kernel : decode k_P_owed.2.1 23 = .ok (.getfield 26, 3)) lg_11_26 (PC_0 hL).1) ?_
    refine ai (r_iload_n (pc := 26) (k := 1) (by decide +kernel : decode k_P_owed.2.1 26 = .ok (.iload_n 1, 1)) rfl rfl) ?_
    refine ai (r_iload_n (pc := 27) (k := 2) (by decide +kernel : decode k_P_owed.2.1 27 = .ok (.iload_n 2, 1)) rfl rfl) ?_
    refine ai (r_iload_n (pc := 28) (k := 3) (by decide +kernel : decode k_P_owed.2.1 28 = .ok (.iload_n 3, 1)) rfl rfl) ?_
    obtain ⟨r10, m11, hr10, h⟩ := bn_some h
    have q12 := P_Ledger_payments_run hL hr10
    have c13 := (PC_13 hL).1
    have hL := q12.2
    refine ai (q_callV (pc := 29) (As := [.int x1, .int x2, .int x3]) (st := [.int r6]) (st2 := [.int r10, .int r6]) (b := 13) rfl rfl (by decide +kernel : decode k_P_owed.2.1 29 = .ok (.invokevirtual 316, 3)) lc_11_316 mo_P_Ledger_payments ⟨Nat.le_of_ble_eq_true rfl, Nat.le_of_ble_eq_true rfl⟩ (Nat.le_of_ble_eq_true rfl) (Nat.le_of_ble_eq_true rfl) c13 q12.1) ?_
    refine ai (r_isub (pc := 32) (by decide +kernel : decode k_P_owed.2.1 32 = .ok (.isub, 1))) ?_
    cases h
    exact ⟨r_iret rfl (by decide +kernel : decode k_P_owed.2.1 33 = .ok (.ireturn, 1)), hL⟩
set_option maxRecDepth 100000 in
set_option maxHeartbeats 4000000 in
theorem P_shorted_23_run {m m' : Mem} {r : Int64} (hL : PL m) (h : P_shorted_23 m = some (r, m')) : Run k_P_shorted 23 [] [] m (some (.long r)) m' ∧ PL m' := by
  unfold P_shorted_23 at h
  refine ai (r_ldc2_w (pc := 23) (by decide +kernel : decode k_P_shorted.2.1 23 = .ok (.ldc2_w 319, 3)) lk_11_319) ?_
  cases h
  exact ⟨r_lret rfl (by decide +kernel : decode k_P_shorted.2.1 26 = .ok (.lreturn, 1)), hL⟩
set_option maxRecDepth 100000 in
set_option maxHeartbeats 4000000 in
theorem P_shorted_86_run {k33 : Int32 → Int32 → Int32 → Int32 → Int64 → Int32 → Mem → Option (Int64 × Mem)} {x1 : Int32} {x3 : Int32} {x4 : Int32} {x5 : Int32} {x8 : Int32} {s0 : Int64} {s1 : Int64} {m m' : Mem} {r : Int64} (hk33 : ∀ (x1 : Int32) (x3 : Int32) (x4 : Int32) (x5 : Int32) (x6 : Int64) (x8 : Int32) (m : Mem) (r : Int64) (m' : Mem), PL m → k33 x1 x3 x4 x5 x6 x8 m = some (r, m') → Run k_P_shorted 33 [(0, .ref 0), (1, .int x1), (3, .int x3), (4, .int x4), (5, .int x5), (6, .long x6), (8, .int x8)] [] m (some (.long r)) m' ∧ PL m') (hL : PL m) (h : P_shorted_86 k33 x1 x3 x4 x5 x8 s0 s1 m = some (r, m')) : Run k_P_shorted 86 [(0, .ref 0), (1, .int x1), (3, .int x3), (4, .int x4), (5, .int x5), (8, .int x8)] [.long s0, .long s1] m (some (.long r)) m' ∧ PL m' := by
  unfold P_shorted_86 at h
  refine ai (r_ladd (pc := 86) (by decide +kernel : decode k_P_shorted.2.1 86 = .ok (.ladd, 1))) ?_
  obtain ⟨v1, hv1, h⟩ := vb_some h
  refine ai (e_lstore (pc := 87) hv1 (by decide +kernel : decode k_P_shorted.2.1 87 = .ok (.lstore 6, 2)) (by decide) rfl (ls2 := [(6, .long v1), (0, .ref 0), (1, .int x1), (3, .int x3), (4, .int x4), (5, .int x5), (8, .int x8)]) (i := 6)) ?_
  obtain ⟨v2, hv2, h⟩ := vb_some h
  refine ai (e_iinc (pc := 89) (k := 6) hv2 ic_1 (by decide +kernel : decode k_P_shorted.2.1 89 = .ok (.iinc 8 (1), 3)) rfl (by decide) rfl (ls2 := [(8, .int v2), (6, .long v1), (0, .ref 0), (1, .int x1), (3, .int x3), (4, .int x4), (5, .int x5)]) (i := 8)) ?_
  refine ai (r_goto (pc := 92) (tgt := 33) (by decide +kernel : decode k_P_shorted.2.1 92 = .ok (.goto (-59), 3)) (by decide)) ?_
  exact (ai (r_sub [2, 3, 4, 5, 6, 1, 0] rfl) (hk33 x1 x3 x4 x5 v1 v2 m _ _ hL h))
set_option maxRecDepth 100000 in
set_option maxHeartbeats 4000000 in
theorem P_shorted_95_run {x6 : Int64} {m m' : Mem} {r : Int64} (hL : PL m) (h : P_shorted_95 x6 m = some (r, m')) : Run k_P_shorted 95 [(6, .long x6)] [] m (some (.long r)) m' ∧ PL m' := by
  unfold P_shorted_95 at h
  refine ai (r_lconst (pc := 95) (x := 0) (by decide +kernel : decode k_P_shorted.2.1 95 = .ok (.lconst 0, 1)) (by decide)) ?_
  refine ai (r_lload (pc := 96) (k := 0) (by decide +kernel : decode k_P_shorted.2.1 96 = .ok (.lload 6, 2)) rfl) ?_
  refine ai (r_mmaxL (pc := 98) (by decide +kernel : decode k_P_shorted.2.1 98 = .ok (.invokestatic 326, 3)) lm_11_326 lm_mmaxL_st lm_math lm_mmaxL_cd ⟨by decide, by decide⟩ (Nat.le_of_ble_eq_true rfl)) ?_
  cases h
  exact ⟨r_lret rfl (by decide +kernel : decode k_P_shorted.2.1 101 = .ok (.lreturn, 1)), hL⟩
set_option maxRecDepth 100000 in
set_option maxHeartbeats 4000000 in
theorem P_shorted_33_run {n : Nat} {x1 : Int32} {x3 : Int32} {x4 : Int32} {x5 : Int32} {x6 : Int64} {x8 : Int32} {m m' : Mem} {r : Int64} (hL : PL m) (h : P_shorted_33 n x1 x3 x4 x5 x6 x8 m = some (r, m')) : Run k_P_shorted 33 [(0, .ref 0), (1, .int x1), (3, .int x3), (4, .int x4), (5, .int x5), (6, .long x6), (8, .int x8)] [] m (some (.long r)) m' ∧ PL m' := by
  induction n generalizing x1 x3 x4 x5 x6 x8 m r m' with
  | zero => exact absurd h (by simp [P_shorted_33])
  | succ n ih =>
    rw [P_shorted_33.eq_2] at h
    refine ai (r_iload (pc := 33) (k := 6) (by decide +kernel : decode k_P_shorted.2.1 33 = .ok (.iload 8, 2)) rfl) ?_
    refine ai (r_iload_n (pc := 35) (k := 2) (by decide +kernel : decode k_P_shorted.2.1 35 = .ok (.iload_n 3, 1)) rfl rfl) ?_
    rcases ite_some h with ⟨c1, h⟩ | ⟨c1, h⟩
    · refine ai (r_icmp_gt_t (pc := 36) (tgt := 95) (by decide +kernel : decode k_P_shorted.2.1 36 = .ok (.if_icmp .gt (59), 3)) (by decide) c1) ?_
      exact (ai (r_sub [5] rfl) (P_shorted_95_run hL h))
    · refine ai (r_icmp_gt_f (pc := 36) 95 (by decide +kernel : decode k_P_shorted.2.1 36 = .ok (.if_icmp .gt (59), 3)) (by decide) c1) ?_
      refine ai (p_aload_n (pc := 39) (k := 0) (by decide +kernel : decode k_P_shorted.2.1 39 = .ok (.aload_n 0, 1)) rfl rfl) ?_
      refine ai (p_getr (pc := 40) (PR_1413_0 hL) (by decide +kernel : decode k_P_shorted.2.1 40 = .ok (.getfield 60, 3)) lg_11_60 (PC_0 hL).1) ?_
      refine ai (r_iload_n (pc := 43) (k := 1) (by decide +kernel : decode k_P_shorted.2.1 43 = .ok (.iload_n 1, 1)) rfl rfl) ?_
      refine ai (r_iload (pc := 44) (k := 6) (by decide +kernel : decode k_P_shorted.2.1 44 = .ok (.iload 8, 2)) rfl) ?_
      refine ai (r_iload (pc := 46) (k := 4) (by decide +kernel : decode k_P_shorted.2.1 46 = .ok (.iload 5, 2)) rfl) ?_
      obtain ⟨r2, m3, hr2, h⟩ := bn_some h
      have q4 := P_Reckoning_weekPay_run hL hr2
      have c5 := (PC_28 hL).1
      have hL := q4.2
      refine ai (q_callV (pc := 48) (As := [.int x1, .int x8, .int x5]) (st := []) (st2 := [.int r2]) (b := 28) rfl rfl (by decide +kernel : decode k_P_shorted.2.1 48 = .ok (.invokevirtual 309, 3)) lc_11_309 mo_P_Reckoning_weekPay ⟨Nat.le_of_ble_eq_true rfl, Nat.le_of_ble_eq_true rfl⟩ (Nat.le_of_ble_eq_true rfl) (Nat.le_of_ble_eq_true rfl) c5 q4.1) ?_
      refine ai (p_aload_n (pc := 51) (k := 0) (by decide +kernel : decode k_P_shorted.2.1 51 = .ok (.aload_n 0, 1)) rfl rfl) ?_
      refine ai (p_getr (pc := 52) (PR_1409_0 hL) (by decide +kernel : decode k_P_shorted.2.1 52 = .ok (.getfield 26, 3)) lg_11_26 (PC_0 hL).1) ?_
      refine ai (r_iload_n (pc := 55) (k := 1) (by decide +kernel : decode k_P_shorted.2.1 55 = .ok (.iload_n 1, 1)) rfl rfl) ?_
      refine ai (r_iload (pc := 56) (k := 6) (by decide +kernel : decode k_P_shorted.2.1 56 = .ok (.iload 8, 2)) rfl) ?_
      refine ai (r_iload (pc := 58) (k := 4) (by decide +kernel : decode k_P_shorted.2.1 58 = .ok (.iload 5, 2)) rfl) ?_
      obtain ⟨r6, m7, hr6, h⟩ := bn_some h
      have q8 := P_Ledger_payments_run hL hr6
      have c9 := (PC_13 hL).1
      have hL := q8.2
      refine ai (q_callV (pc := 60) (As := [.int x1, .int x8, .int x5]) (st := [.int r2]) (st2 := [.int r6, .int r2]) (b := 13) rfl rfl (by decide +kernel : decode k_P_shorted.2.1 60 = .ok (.invokevirtual 316, 3)) lc_11_316 mo_P_Ledger_payments ⟨Nat.le_of_ble_eq_true rfl, Nat.le_of_ble_eq_true rfl⟩ (Nat.le_of_ble_eq_true rfl) (Nat.le_of_ble_eq_true rfl) c9 q8.1) ?_
      refine ai (r_isub (pc := 63) (by decide +kernel : decode k_P_shorted.2.1 63 = .ok (.isub, 1))) ?_
      obtain ⟨v10, hv10, h⟩ := vb_some h
      refine ai (e_istore (pc := 64) hv10 (by decide +kernel : decode k_P_shorted.2.1 64 = .ok (.istore 9, 2)) (by decide) rfl (ls2 := [(9, .int v10), (0, .ref 0), (1, .int x1), (3, .int x3), (4, .int x4), (5, .int x5), (6, .long x6), (8, .int x8)]) (i := 9)) ?_
      refine ai (r_lload (pc := 66) (k := 6) (by decide +kernel : decode k_P_shorted.2.1 66 = .ok (.lload 6, 2)) rfl) ?_
      refine ai (r_iload (pc := 68) (k := 4) (by decide +kernel : decode k_P_shorted.2.1 68 = .ok (.iload 4, 2)) rfl) ?_
      rcases ite_some h with ⟨c11, h⟩ | ⟨c11, h⟩
      · refine ai (r_if_eq_t (pc := 70) (tgt := 79) (by decide +kernel : decode k_P_shorted.2.1 70 = .ok (.ifCond .eq (9), 3)) (by decide) c11) ?_
        refine ai (r_iconst (pc := 79) (by decide +kernel : decode k_P_shorted.2.1 79 = .ok (.iconst 0, 1)) ic_0) ?_
        refine ai (r_iload (pc := 80) (k := 0) (by decide +kernel : decode k_P_shorted.2.1 80 = .ok (.iload 9, 2)) rfl) ?_
        refine ai (r_mmax (pc := 82) (by decide +kernel : decode k_P_shorted.2.1 82 = .ok (.invokestatic 321, 3)) lm_11_321 lm_mmax_st lm_math lm_mmax_cd ⟨by decide, by decide⟩ (Nat.le_of_ble_eq_true rfl)) ?_
        refine ai (r_i2l (pc := 85) (by decide +kernel : decode k_P_shorted.2.1 85 = .ok (.i2l, 1))) ?_
        exact (ai (r_sub [1, 2, 3, 4, 5, 7] rfl) (P_shorted_86_run (fun _ _ _ _ _ _ _ _ _ q1 q3 => ih q1 q3) hL h))
      · refine ai (r_if_eq_f (pc := 70) 79 (by decide +kernel : decode k_P_shorted.2.1 70 = .ok (.ifCond .eq (9), 3)) (by decide) c11) ?_
        refine ai (r_iload (pc := 73) (k := 0) (by decide +kernel : decode k_P_shorted.2.1 73 = .ok (.iload 9, 2)) rfl) ?_
        refine ai (r_i2l (pc := 75) (by decide +kernel : decode k_P_shorted.2.1 75 = .ok (.i2l, 1))) ?_
        refine ai (r_goto (pc := 76) (tgt := 86) (by decide +kernel : decode k_P_shorted.2.1 76 = .ok (.goto (10), 3)) (by decide)) ?_
        exact (ai (r_sub [1, 2, 3, 4, 5, 7] rfl) (P_shorted_86_run (fun _ _ _ _ _ _ _ _ _ q1 q3 => ih q1 q3) hL h))
set_option maxRecDepth 100000 in
set_option maxHeartbeats 4000000 in
theorem P_shorted_run {x1 : Int32} {x2 : Int32} {x3 : Int32} {x4 : Int32} {x5 : Int32} {m m' : Mem} {r : Int64} (hL : PL m) (h : P_shorted x1 x2 x3 x4 x5 m = some (r, m')) : Run k_P_shorted 0 [(0, .ref 0), (1, .int x1), (2, .int x2), (3, .int x3), (4, .int x4), (5, .int x5)] [] m (some (.long r)) m' ∧ PL m' := by
  unfold P_shorted at h
  refine ai (p_aload_n (pc := 0) (k := 0) (by decide +kernel : decode k_P_shorted.2.1 0 = .ok (.aload_n 0, 1)) rfl rfl) ?_
  refine ai (r_iload_n (pc := 1) (k := 1) (by decide +kernel : decode k_P_shorted.2.1 1 = .ok (.iload_n 1, 1)) rfl rfl) ?_
  refine ai (r_iload_n (pc := 2) (k := 2) (by decide +kernel : decode k_P_shorted.2.1 2 = .ok (.iload_n 2, 1)) rfl rfl) ?_
  refine ai (r_iload (pc := 3) (k := 5) (by decide +kernel : decode k_P_shorted.2.1 3 = .ok (.iload 5, 2)) rfl) ?_
  obtain ⟨r1, m2, hr1, h⟩ := bn_some h
  have q3 := P_isWeekOf_run hL hr1
  have c4 := (PC_0 hL).1
  have hL := q3.2
  refine ai (q_callV (pc := 5) (As := [.int x1, .int x2, .int x5]) (st := []) (st2 := [.int r1]) (b := 0) rfl rfl (by decide +kernel : decode k_P_shorted.2.1 5 = .ok (.invokevirtual 306, 3)) lc_11_306 mo_P_isWeekOf ⟨Nat.le_of_ble_eq_true rfl, Nat.le_of_ble_eq_true rfl⟩ (Nat.le_of_ble_eq_true rfl) (Nat.le_of_ble_eq_true rfl) c4 q3.1) ?_
  rcases ite_some h with ⟨c5, h⟩ | ⟨c5, h⟩
  · refine ai (r_if_eq_t (pc := 8) (tgt := 23) (by decide +kernel : decode k_P_shorted.2.1 8 = .ok (.ifCond .eq (15), 3)) (by decide) c5) ?_
    exact (ai (r_sub [] rfl) (P_shorted_23_run hL h))
  · refine ai (r_if_eq_f (pc := 8) 23 (by decide +kernel : decode k_P_shorted.2.1 8 = .ok (.ifCond .eq (15), 3)) (by decide) c5) ?_
    refine ai (r_iload_n (pc := 11) (k := 3) (by decide +kernel : decode k_P_shorted.2.1 11 = .ok (.iload_n 3, 1)) rfl rfl) ?_
    obtain ⟨r6, hr6, h⟩ := bp_some h
    refine ai (q_callS (pc := 12) (As := [.int x3]) (st := []) (st2 := [.int r6]) rfl rfl (by decide +kernel : decode k_P_shorted.2.1 12 = .ok (.invokestatic 184, 3)) lc_11_184 mo_P_isWeek ⟨Nat.le_of_ble_eq_true rfl, Nat.le_of_ble_eq_true rfl⟩ (Nat.le_of_ble_eq_true rfl) (Nat.le_of_ble_eq_true rfl) (P_isWeek_run hr6)) ?_
    rcases ite_some h with ⟨c7, h⟩ | ⟨c7, h⟩
    · refine ai (r_if_eq_t (pc := 15) (tgt := 23) (by decide +kernel : decode k_P_shorted.2.1 15 = .ok (.ifCond .eq (8), 3)) (by decide) c7) ?_
      exact (ai (r_sub [] rfl) (P_shorted_23_run hL h))
    · refine ai (r_if_eq_f (pc := 15) 23 (by decide +kernel : decode k_P_shorted.2.1 15 = .ok (.ifCond .eq (8), 3)) (by decide) c7) ?_
      refine ai (r_iload_n (pc := 18) (k := 3) (by decide +kernel : decode k_P_shorted.2.1 18 = .ok (.iload_n 3, 1)) rfl rfl) ?_
      refine ai (r_iload_n (pc := 19) (k := 2) (by decide +kernel : decode k_P_shorted.2.1 19 = .ok (.iload_n 2, 1)) rfl rfl) ?_
      rcases ite_some h with ⟨c8, h⟩ | ⟨c8, h⟩
      · refine ai (r_icmp_ge_t (pc := 20) (tgt := 27) (by decide +kernel : decode k_P_shorted.2.1 20 = .ok (.if_icmp .ge (7), 3)) (by decide) c8) ?_
        refine ai (r_lconst (pc := 27) (x := 0) (by decide +kernel : decode k_P_shorted.2.1 27 = .ok (.lconst 0, 1)) (by decide)) ?_
        refine ai (e_lstore (pc := 28) rfl (by decide +kernel : decode k_P_shorted.2.1 28 = .ok (.lstore 6, 2)) (by decide) rfl (ls2 := [(6, .long 0), (0, .ref 0), (1, .int x1), (2, .int x2), (3, .int x3), (4, .int x4), (5, .int x5)]) (i := 6)) ?_
        refine ai (r_iload_n (pc := 30) (k := 3) (by decide +kernel : decode k_P_shorted.2.1 30 = .ok (.iload_n 2, 1)) rfl rfl) ?_
        refine ai (e_istore (pc := 31) rfl (by decide +kernel : decode k_P_shorted.2.1 31 = .ok (.istore 8, 2)) (by decide) rfl (ls2 := [(8, .int x2), (6, .long 0), (0, .ref 0), (1, .int x1), (2, .int x2), (3, .int x3), (4, .int x4), (5, .int x5)]) (i := 8)) ?_
        exact (ai (r_sub [2, 3, 5, 6, 7, 1, 0] rfl) (P_shorted_33_run hL h))
      · refine ai (r_icmp_ge_f (pc := 20) 27 (by decide +kernel : decode k_P_shorted.2.1 20 = .ok (.if_icmp .ge (7), 3)) (by decide) c8) ?_
        exact (ai (r_sub [] rfl) (P_shorted_23_run hL h))
set_option maxRecDepth 100000 in
set_option maxHeartbeats 4000000 in
theorem P_Scene_suppose_run {x1 : Option Nat} {x2 : Int32} {x3 : Int32} {m m' : Mem} {r : Unit} (hL : PL m) (h : P_Scene_suppose x1 x2 x3 m = some (r, m')) : Run k_P_Scene_suppose 0 [(0, .ref 25), (1, va_rf x1), (2, .int x2), (3, .int x3)] [] m none m' ∧ PL m' := by
  unfold P_Scene_suppose at h
  refine ai (p_aload_n (pc := 0) (k := 0) (by decide +kernel : decode k_P_Scene_suppose.2.1 0 = .ok (.aload_n 0, 1)) rfl rfl) ?_
  refine ai (r_aload_n (pc := 1) (k := 1) (by decide +kernel : decode k_P_Scene_suppose.2.1 1 = .ok (.aload_n 1, 1)) rfl rfl) ?_
  have c1 := (PC_25 hL).1
  obtain ⟨m2, hm2, h⟩ := vb_some h
  have hL : PL m2 := by rw [hm2]; exact PL.sR (by decide) hL
  refine ai (p_putR (pc := 2) hm2 (by decide +kernel : decode k_P_Scene_suppose.2.1 2 = .ok (.putfield 34, 3)) lp_9_34 c1) ?_
  refine ai (p_aload_n (pc := 5) (k := 0) (by decide +kernel : decode k_P_Scene_suppose.2.1 5 = .ok (.aload_n 0, 1)) rfl rfl) ?_
  refine ai (r_iload_n (pc := 6) (k := 2) (by decide +kernel : decode k_P_Scene_suppose.2.1 6 = .ok (.iload_n 2, 1)) rfl rfl) ?_
  have c3 := (PC_25 hL).1
  obtain ⟨m4, hm4, h⟩ := vb_some h
  have hL : PL m4 := by rw [hm4]; exact hL
  refine ai (p_putI (pc := 7) hm4 (by decide +kernel : decode k_P_Scene_suppose.2.1 7 = .ok (.putfield 18, 3)) lp_9_18 c3) ?_
  refine ai (p_aload_n (pc := 10) (k := 0) (by decide +kernel : decode k_P_Scene_suppose.2.1 10 = .ok (.aload_n 0, 1)) rfl rfl) ?_
  refine ai (r_iload_n (pc := 11) (k := 3) (by decide +kernel : decode k_P_Scene_suppose.2.1 11 = .ok (.iload_n 3, 1)) rfl rfl) ?_
  have c5 := (PC_25 hL).1
  obtain ⟨m6, hm6, h⟩ := vb_some h
  have hL : PL m6 := by rw [hm6]; exact hL
  refine ai (p_putI (pc := 12) hm6 (by decide +kernel : decode k_P_Scene_suppose.2.1 12 = .ok (.putfield 38, 3)) lp_9_38 c5) ?_
  cases h
  exact ⟨r_vret rfl (by decide +kernel : decode k_P_Scene_suppose.2.1 15 = .ok (.return_, 1)), hL⟩
set_option maxRecDepth 100000 in
set_option maxHeartbeats 4000000 in
theorem P_tried_28_run {m m' : Mem} {r : Int64} (hL : PL m) (h : P_tried_28 m = some (r, m')) : Run k_P_tried 28 [] [] m (some (.long r)) m' ∧ PL m' := by
  unfold P_tried_28 at h
  refine ai (r_ldc2_w (pc := 28) (by decide +kernel : decode k_P_tried.2.1 28 = .ok (.ldc2_w 319, 3)) lk_11_319) ?_
  cases h
  exact ⟨r_lret rfl (by decide +kernel : decode k_P_tried.2.1 31 = .ok (.lreturn, 1)), hL⟩
set_option maxRecDepth 100000 in
set_option maxHeartbeats 4000000 in
theorem P_tried_79_run {m m' : Mem} {r : Int64} (hL : PL m) (h : P_tried_79 m = some (r, m')) : Run k_P_tried 79 [] [] m (some (.long r)) m' ∧ PL m' := by
  unfold P_tried_79 at h
  refine ai (r_ldc2_w (pc := 79) (by decide +kernel : decode k_P_tried.2.1 79 = .ok (.ldc2_w 319, 3)) lk_11_319) ?_
  cases h
  exact ⟨r_lret rfl (by decide +kernel : decode k_P_tried.2.1 82 = .ok (.lreturn, 1)), hL⟩
set_option maxRecDepth 100000 in
set_option maxHeartbeats 4000000 in
theorem P_tried_106_run {m m' : Mem} {r : Int64} (hL : PL m) (h : P_tried_106 m = some (r, m')) : Run k_P_tried 106 [] [] m (some (.long r)) m' ∧ PL m' := by
  unfold P_tried_106 at h
  refine ai (r_ldc2_w (pc := 106) (by decide +kernel : decode k_P_tried.2.1 106 = .ok (.ldc2_w 319, 3)) lk_11_319) ?_
  cases h
  exact ⟨r_lret rfl (by decide +kernel : decode k_P_tried.2.1 109 = .ok (.lreturn, 1)), hL⟩
set_option maxRecDepth 100000 in
set_option maxHeartbeats 4000000 in
theorem P_tried_195_run {k128 : Int32 → Int32 → Int32 → Int32 → Int64 → Int32 → Mem → Option (Int64 × Mem)} {x1 : Int32} {x5 : Int32} {x6 : Int32} {x7 : Int32} {x9 : Int64} {x11 : Int32} {m m' : Mem} {r : Int64} (hk128 : ∀ (x1 : Int32) (x5 : Int32) (x6 : Int32) (x7 : Int32) (x9 : Int64) (x11 : Int32) (m : Mem) (r : Int64) (m' : Mem), PL m → k128 x1 x5 x6 x7 x9 x11 m = some (r, m') → Run k_P_tried 128 [(0, .ref 0), (1, .int x1), (5, .int x5), (6, .int x6), (7, .int x7), (9, .long x9), (11, .int x11)] [] m (some (.long r)) m' ∧ PL m') (hL : PL m) (h : P_tried_195 k128 x1 x5 x6 x7 x9 x11 m = some (r, m')) : Run k_P_tried 195 [(0, .ref 0), (1, .int x1), (5, .int x5), (6, .int x6), (7, .int x7), (9, .long x9), (11, .int x11)] [] m (some (.long r)) m' ∧ PL m' := by
  unfold P_tried_195 at h
  obtain ⟨v1, hv1, h⟩ := vb_some h
  refine ai (e_iinc (pc := 195) (k := 6) hv1 ic_1 (by decide +kernel : decode k_P_tried.2.1 195 = .ok (.iinc 11 (1), 3)) rfl (by decide) rfl (ls2 := [(11, .int v1), (0, .ref 0), (1, .int x1), (5, .int x5), (6, .int x6), (7, .int x7), (9, .long x9)]) (i := 11)) ?_
  refine ai (r_goto (pc := 198) (tgt := 128) (by decide +kernel : decode k_P_tried.2.1 198 = .ok (.goto (-70), 3)) (by decide)) ?_
  exact (ai (r_sub [1, 2, 3, 4, 5, 6, 0] rfl) (hk128 x1 x5 x6 x7 x9 v1 m _ _ hL h))
set_option maxRecDepth 100000 in
set_option maxHeartbeats 4000000 in
theorem P_tried_163_run {k128 : Int32 → Int32 → Int32 → Int32 → Int64 → Int32 → Mem → Option (Int64 × Mem)} {n : Nat} {x1 : Int32} {x5 : Int32} {x6 : Int32} {x7 : Int32} {x9 : Int64} {x11 : Int32} {x12 : Int32} {m m' : Mem} {r : Int64} (hk128 : ∀ (x1 : Int32) (x5 : Int32) (x6 : Int32) (x7 : Int32) (x9 : Int64) (x11 : Int32) (m : Mem) (r : Int64) (m' : Mem), PL m → k128 x1 x5 x6 x7 x9 x11 m = some (r, m') → Run k_P_tried 128 [(0, .ref 0), (1, .int x1), (5, .int x5), (6, .int x6), (7, .int x7), (9, .long x9), (11, .int x11)] [] m (some (.long r)) m' ∧ PL m') (hL : PL m) (h : P_tried_163 k128 n x1 x5 x6 x7 x9 x11 x12 m = some (r, m')) : Run k_P_tried 163 [(0, .ref 0), (1, .int x1), (5, .int x5), (6, .int x6), (7, .int x7), (9, .long x9), (11, .int x11), (12, .int x12)] [] m (some (.long r)) m' ∧ PL m' := by
  induction n generalizing x1 x5 x6 x7 x9 x11 x12 m r m' with
  | zero => exact absurd h (by simp [P_tried_163])
  | succ n ih =>
    rw [P_tried_163.eq_2] at h
    refine ai (r_iload (pc := 163) (k := 7) (by decide +kernel : decode k_P_tried.2.1 163 = .ok (.iload 12, 2)) rfl) ?_
    refine ai (r_iload (pc := 165) (k := 3) (by decide +kernel : decode k_P_tried.2.1 165 = .ok (.iload 6, 2)) rfl) ?_
    rcases ite_some h with ⟨c1, h⟩ | ⟨c1, h⟩
    · refine ai (r_icmp_gt_t (pc := 167) (tgt := 195) (by decide +kernel : decode k_P_tried.2.1 167 = .ok (.if_icmp .gt (28), 3)) (by decide) c1) ?_
      exact (ai (r_sub [0, 1, 2, 3, 4, 5, 6] rfl) (P_tried_195_run hk128 hL h))
    · refine ai (r_icmp_gt_f (pc := 167) 195 (by decide +kernel : decode k_P_tried.2.1 167 = .ok (.if_icmp .gt (28), 3)) (by decide) c1) ?_
      refine ai (r_lload (pc := 170) (k := 5) (by decide +kernel : decode k_P_tried.2.1 170 = .ok (.lload 9, 2)) rfl) ?_
      refine ai (p_aload_n (pc := 172) (k := 0) (by decide +kernel : decode k_P_tried.2.1 172 = .ok (.aload_n 0, 1)) rfl rfl) ?_
      refine ai (p_getr (pc := 173) (PR_1413_0 hL) (by decide +kernel : decode k_P_tried.2.1 173 = .ok (.getfield 60, 3)) lg_11_60 (PC_0 hL).1) ?_
      refine ai (r_iload (pc := 176) (k := 6) (by decide +kernel : decode k_P_tried.2.1 176 = .ok (.iload 11, 2)) rfl) ?_
      refine ai (r_iload (pc := 178) (k := 7) (by decide +kernel : decode k_P_tried.2.1 178 = .ok (.iload 12, 2)) rfl) ?_
      refine ai (r_iload (pc := 180) (k := 4) (by decide +kernel : decode k_P_tried.2.1 180 = .ok (.iload 7, 2)) rfl) ?_
      obtain ⟨r2, m3, hr2, h⟩ := bn_some h
      have q4 := P_Reckoning_weekPay_run hL hr2
      have c5 := (PC_28 hL).1
      have hL := q4.2
      refine ai (q_callV (pc := 182) (As := [.int x11, .int x12, .int x7]) (st := [.long x9]) (st2 := [.int r2, .long x9]) (b := 28) rfl rfl (by decide +kernel : decode k_P_tried.2.1 182 = .ok (.invokevirtual 309, 3)) lc_11_309 mo_P_Reckoning_weekPay ⟨Nat.le_of_ble_eq_true rfl, Nat.le_of_ble_eq_true rfl⟩ (Nat.le_of_ble_eq_true rfl) (Nat.le_of_ble_eq_true rfl) c5 q4.1) ?_
      refine ai (r_i2l (pc := 185) (by decide +kernel : decode k_P_tried.2.1 185 = .ok (.i2l, 1))) ?_
      refine ai (r_ladd (pc := 186) (by decide +kernel : decode k_P_tried.2.1 186 = .ok (.ladd, 1))) ?_
      obtain ⟨v6, hv6, h⟩ := vb_some h
      refine ai (e_lstore (pc := 187) hv6 (by decide +kernel : decode k_P_tried.2.1 187 = .ok (.lstore 9, 2)) (by decide) rfl (ls2 := [(9, .long v6), (0, .ref 0), (1, .int x1), (5, .int x5), (6, .int x6), (7, .int x7), (11, .int x11), (12, .int x12)]) (i := 9)) ?_
      obtain ⟨v7, hv7, h⟩ := vb_some h
      refine ai (e_iinc (pc := 189) (k := 7) hv7 ic_1 (by decide +kernel : decode k_P_tried.2.1 189 = .ok (.iinc 12 (1), 3)) rfl (by decide) rfl (ls2 := [(12, .int v7), (9, .long v6), (0, .ref 0), (1, .int x1), (5, .int x5), (6, .int x6), (7, .int x7), (11, .int x11)]) (i := 12)) ?_
      refine ai (r_goto (pc := 192) (tgt := 163) (by decide +kernel : decode k_P_tried.2.1 192 = .ok (.goto (-29), 3)) (by decide)) ?_
      exact (ai (r_sub [2, 3, 4, 5, 6, 1, 7, 0] rfl) (ih hL h))
set_option maxRecDepth 100000 in
set_option maxHeartbeats 4000000 in
theorem P_tried_159_run {k128 : Int32 → Int32 → Int32 → Int32 → Int64 → Int32 → Mem → Option (Int64 × Mem)} {x1 : Int32} {x5 : Int32} {x6 : Int32} {x7 : Int32} {x9 : Int64} {x11 : Int32} {m m' : Mem} {r : Int64} (hk128 : ∀ (x1 : Int32) (x5 : Int32) (x6 : Int32) (x7 : Int32) (x9 : Int64) (x11 : Int32) (m : Mem) (r : Int64) (m' : Mem), PL m → k128 x1 x5 x6 x7 x9 x11 m = some (r, m') → Run k_P_tried 128 [(0, .ref 0), (1, .int x1), (5, .int x5), (6, .int x6), (7, .int x7), (9, .long x9), (11, .int x11)] [] m (some (.long r)) m' ∧ PL m') (hL : PL m) (h : P_tried_159 k128 x1 x5 x6 x7 x9 x11 m = some (r, m')) : Run k_P_tried 159 [(0, .ref 0), (1, .int x1), (5, .int x5), (6, .int x6), (7, .int x7), (9, .long x9), (11, .int x11)] [] m (some (.long r)) m' ∧ PL m' := by
  unfold P_tried_159 at h
  refine ai (r_iload (pc := 159) (k := 2) (by decide +kernel : decode k_P_tried.2.1 159 = .ok (.iload 5, 2)) rfl) ?_
  refine ai (e_istore (pc := 161) rfl (by decide +kernel : decode k_P_tried.2.1 161 = .ok (.istore 12, 2)) (by decide) rfl (ls2 := [(12, .int x5), (0, .ref 0), (1, .int x1), (5, .int x5), (6, .int x6), (7, .int x7), (9, .long x9), (11, .int x11)]) (i := 12)) ?_
  exact (ai (r_sub [1, 2, 3, 4, 5, 6, 7, 0] rfl) (P_tried_163_run hk128 hL h))
set_option maxRecDepth 100000 in
set_option maxHeartbeats 4000000 in
theorem P_tried_201_run {x9 : Int64} {m m' : Mem} {r : Int64} (hL : PL m) (h : P_tried_201 x9 m = some (r, m')) : Run k_P_tried 201 [(0, .ref 0), (9, .long x9)] [] m (some (.long r)) m' ∧ PL m' := by
  unfold P_tried_201 at h
  refine ai (p_aload_n (pc := 201) (k := 0) (by decide +kernel : decode k_P_tried.2.1 201 = .ok (.aload_n 0, 1)) rfl rfl) ?_
  refine ai (p_getr (pc := 202) (PR_1412_0 hL) (by decide +kernel : decode k_P_tried.2.1 202 = .ok (.getfield 51, 3)) lg_11_51 (PC_0 hL).1) ?_
  refine ai (r_null (pc := 205) (by decide +kernel : decode k_P_tried.2.1 205 = .ok (.aconst_null, 1))) ?_
  refine ai (r_iconst (pc := 206) (by decide +kernel : decode k_P_tried.2.1 206 = .ok (.iconst (-1), 1)) ic_m1) ?_
  refine ai (r_iconst (pc := 207) (by decide +kernel : decode k_P_tried.2.1 207 = .ok (.iconst 0, 1)) ic_0) ?_
  obtain ⟨r1, m2, hr1, h⟩ := bn_some h
  have q3 := P_Scene_suppose_run hL hr1
  have c4 := (PC_25 hL).1
  have hL := q3.2
  refine ai (q_callV (pc := 208) (As := [.null, .int (-1), .int 0]) (st := []) (st2 := []) (b := 25) rfl rfl (by decide +kernel : decode k_P_tried.2.1 208 = .ok (.invokevirtual 329, 3)) lc_11_329 mo_P_Scene_suppose ⟨Nat.le_of_ble_eq_true rfl, Nat.le_of_ble_eq_true rfl⟩ (Nat.le_of_ble_eq_true rfl) (Nat.le_of_ble_eq_true rfl) c4 q3.1) ?_
  refine ai (r_lload (pc := 211) (k := 1) (by decide +kernel : decode k_P_tried.2.1 211 = .ok (.lload 9, 2)) rfl) ?_
  cases h
  exact ⟨r_lret rfl (by decide +kernel : decode k_P_tried.2.1 213 = .ok (.lreturn, 1)), hL⟩
set_option maxRecDepth 100000 in
set_option maxHeartbeats 4000000 in
theorem P_tried_128_run {n : Nat} {x1 : Int32} {x5 : Int32} {x6 : Int32} {x7 : Int32} {x9 : Int64} {x11 : Int32} {m m' : Mem} {r : Int64} (hL : PL m) (h : P_tried_128 n x1 x5 x6 x7 x9 x11 m = some (r, m')) : Run k_P_tried 128 [(0, .ref 0), (1, .int x1), (5, .int x5), (6, .int x6), (7, .int x7), (9, .long x9), (11, .int x11)] [] m (some (.long r)) m' ∧ PL m' := by
  induction n generalizing x1 x5 x6 x7 x9 x11 m r m' with
  | zero => exact absurd h (by simp [P_tried_128])
  | succ n ih =>
    rw [P_tried_128.eq_2] at h
    refine ai (r_iload (pc := 128) (k := 6) (by decide +kernel : decode k_P_tried.2.1 128 = .ok (.iload 11, 2)) rfl) ?_
    refine ai (p_aload_n (pc := 130) (k := 0) (by decide +kernel : decode k_P_tried.2.1 130 = .ok (.aload_n 0, 1)) rfl rfl) ?_
    refine ai (p_getr (pc := 131) (PR_1408_0 hL) (by decide +kernel : decode k_P_tried.2.1 131 = .ok (.getfield 19, 3)) lg_11_19 (PC_0 hL).1) ?_
    refine ai (r_getI (pc := 134) (by decide +kernel : decode k_P_tried.2.1 134 = .ok (.getfield 333, 3)) lg_11_333 (by decide) (PC_5 hL).1) ?_
    rcases ite_some h with ⟨c1, h⟩ | ⟨c1, h⟩
    · refine ai (r_icmp_ge_t (pc := 137) (tgt := 201) (by decide +kernel : decode k_P_tried.2.1 137 = .ok (.if_icmp .ge (64), 3)) (by decide) c1) ?_
      exact (ai (r_sub [0, 5] rfl) (P_tried_201_run hL h))
    · refine ai (r_icmp_ge_f (pc := 137) 201 (by decide +kernel : decode k_P_tried.2.1 137 = .ok (.if_icmp .ge (64), 3)) (by decide) c1) ?_
      refine ai (r_iload_n (pc := 140) (k := 1) (by decide +kernel : decode k_P_tried.2.1 140 = .ok (.iload_n 1, 1)) rfl rfl) ?_
      refine ai (r_iconst (pc := 141) (by decide +kernel : decode k_P_tried.2.1 141 = .ok (.iconst (-1), 1)) ic_m1) ?_
      rcases ite_some h with ⟨c2, h⟩ | ⟨c2, h⟩
      · refine ai (r_icmp_eq_t (pc := 142) (tgt := 159) (by decide +kernel : decode k_P_tried.2.1 142 = .ok (.if_icmp .eq (17), 3)) (by decide) c2) ?_
        exact (P_tried_159_run (fun _ _ _ _ _ _ _ _ _ q1 q3 => ih q1 q3) hL h)
      · refine ai (r_icmp_eq_f (pc := 142) 159 (by decide +kernel : decode k_P_tried.2.1 142 = .ok (.if_icmp .eq (17), 3)) (by decide) c2) ?_
        refine ai (p_aload_n (pc := 145) (k := 0) (by decide +kernel : decode k_P_tried.2.1 145 = .ok (.aload_n 0, 1)) rfl rfl) ?_
        refine ai (p_getr (pc := 146) (PR_1408_0 hL) (by decide +kernel : decode k_P_tried.2.1 146 = .ok (.getfield 19, 3)) lg_11_19 (PC_0 hL).1) ?_
        refine ai (p_getr (pc := 149) (PR_389_5 hL) (by decide +kernel : decode k_P_tried.2.1 149 = .ok (.getfield 336, 3)) lg_11_336 (PC_5 hL).1) ?_
        refine ai (r_iload (pc := 152) (k := 6) (by decide +kernel : decode k_P_tried.2.1 152 = .ok (.iload 11, 2)) rfl) ?_
        obtain ⟨g3, h⟩ := gd_some h
        refine ai (p_iald (pc := 154) (by decide +kernel : decode k_P_tried.2.1 154 = .ok (.iaload, 1)) (PC_8 hL).1 (PC_8 hL).2 g3) ?_
        refine ai (r_iload_n (pc := 155) (k := 1) (by decide +kernel : decode k_P_tried.2.1 155 = .ok (.iload_n 1, 1)) rfl rfl) ?_
        rcases ite_some h with ⟨c4, h⟩ | ⟨c4, h⟩
        · refine ai (r_icmp_ne_f (pc := 156) 195 (by decide +kernel : decode k_P_tried.2.1 156 = .ok (.if_icmp .ne (39), 3)) (by decide) c4) ?_
          exact (P_tried_159_run (fun _ _ _ _ _ _ _ _ _ q1 q3 => ih q1 q3) hL h)
        · refine ai (r_icmp_ne_t (pc := 156) (tgt := 195) (by decide +kernel : decode k_P_tried.2.1 156 = .ok (.if_icmp .ne (39), 3)) (by decide) c4) ?_
          exact (P_tried_195_run (fun _ _ _ _ _ _ _ _ _ q1 q3 => ih q1 q3) hL h)
set_option maxRecDepth 100000 in
set_option maxHeartbeats 4000000 in
theorem P_tried_16_run {x1 : Int32} {x2 : Int32} {x3 : Int32} {x4 : Int32} {x5 : Int32} {x6 : Int32} {x7 : Int32} {m m' : Mem} {r : Int64} (hL : PL m) (h : P_tried_16 x1 x2 x3 x4 x5 x6 x7 m = some (r, m')) : Run k_P_tried 16 [(0, .ref 0), (1, .int x1), (2, .int x2), (3, .int x3), (4, .int x4), (5, .int x5), (6, .int x6), (7, .int x7)] [] m (some (.long r)) m' ∧ PL m' := by
  unfold P_tried_16 at h
  refine ai (p_aload_n (pc := 16) (k := 0) (by decide +kernel : decode k_P_tried.2.1 16 = .ok (.aload_n 0, 1)) rfl rfl) ?_
  refine ai (p_getr (pc := 17) (PR_1409_0 hL) (by decide +kernel : decode k_P_tried.2.1 17 = .ok (.getfield 26, 3)) lg_11_26 (PC_0 hL).1) ?_
  refine ai (r_iload (pc := 20) (k := 7) (by decide +kernel : decode k_P_tried.2.1 20 = .ok (.iload 7, 2)) rfl) ?_
  obtain ⟨r1, m2, hr1, h⟩ := bn_some h
  have q3 := P_Ledger_canKnow_run hL hr1
  have c4 := (PC_13 hL).1
  have hL := q3.2
  refine ai (q_callV (pc := 22) (As := [.int x7]) (st := []) (st2 := [.int r1]) (b := 13) rfl rfl (by decide +kernel : decode k_P_tried.2.1 22 = .ok (.invokevirtual 189, 3)) lc_11_189 mo_P_Ledger_canKnow ⟨Nat.le_of_ble_eq_true rfl, Nat.le_of_ble_eq_true rfl⟩ (Nat.le_of_ble_eq_true rfl) (Nat.le_of_ble_eq_true rfl) c4 q3.1) ?_
  rcases ite_some h with ⟨c5, h⟩ | ⟨c5, h⟩
  · refine ai (r_if_ne_f (pc := 25) 32 (by decide +kernel : decode k_P_tried.2.1 25 = .ok (.ifCond .ne (7), 3)) (by decide) c5) ?_
    exact (ai (r_sub [] rfl) (P_tried_28_run hL h))
  · refine ai (r_if_ne_t (pc := 25) (tgt := 32) (by decide +kernel : decode k_P_tried.2.1 25 = .ok (.ifCond .ne (7), 3)) (by decide) c5) ?_
    refine ai (p_aload_n (pc := 32) (k := 0) (by decide +kernel : decode k_P_tried.2.1 32 = .ok (.aload_n 0, 1)) rfl rfl) ?_
    refine ai (p_getr (pc := 33) (PR_1409_0 hL) (by decide +kernel : decode k_P_tried.2.1 33 = .ok (.getfield 26, 3)) lg_11_26 (PC_0 hL).1) ?_
    refine ai (r_iload_n (pc := 36) (k := 2) (by decide +kernel : decode k_P_tried.2.1 36 = .ok (.iload_n 2, 1)) rfl rfl) ?_
    refine ai (r_iload (pc := 37) (k := 7) (by decide +kernel : decode k_P_tried.2.1 37 = .ok (.iload 7, 2)) rfl) ?_
    obtain ⟨r6, m7, hr6, h⟩ := bn_some h
    have q8 := P_Ledger_textAt_run hL hr6
    have c9 := (PC_13 hL).1
    have hL := q8.2
    refine ai (q_callV (pc := 39) (As := [.int x2, .int x7]) (st := []) (st2 := [va_rf r6]) (b := 13) rfl rfl (by decide +kernel : decode k_P_tried.2.1 39 = .ok (.invokevirtual 174, 3)) lc_11_174 mo_P_Ledger_textAt ⟨Nat.le_of_ble_eq_true rfl, Nat.le_of_ble_eq_true rfl⟩ (Nat.le_of_ble_eq_true rfl) (Nat.le_of_ble_eq_true rfl) c9 q8.1) ?_
    refine ai (r_astore (pc := 42) (by decide +kernel : decode k_P_tried.2.1 42 = .ok (.astore 8, 2)) (by decide) rfl (ls2 := [(8, va_rf r6), (0, .ref 0), (1, .int x1), (2, .int x2), (3, .int x3), (4, .int x4), (5, .int x5), (6, .int x6), (7, .int x7)]) (i := 8)) ?_
    refine ai (r_aload (pc := 44) (k := 0) (by decide +kernel : decode k_P_tried.2.1 44 = .ok (.aload 8, 2)) rfl) ?_
    rcases ite_some h with ⟨c10, h⟩ | ⟨c10, h⟩
    · refine ai (d_ifnull_t (pc := 46) (tgt := 79) c10 (by decide +kernel : decode k_P_tried.2.1 46 = .ok (.ifnull (33), 3)) (by decide)) ?_
      exact (ai (r_sub [] rfl) (P_tried_79_run hL h))
    · refine ai (d_ifnull_f (pc := 46) c10 (by decide +kernel : decode k_P_tried.2.1 46 = .ok (.ifnull (33), 3))) ?_
      obtain ⟨a11, rfl, hha11⟩ := gs_some h
      have h := hha11
      refine ai (p_aload (pc := 49) (k := 0) (by decide +kernel : decode k_P_tried.2.1 49 = .ok (.aload 8, 2)) rfl) ?_
      obtain ⟨t12, h⟩ := gt_some h
      refine ai (r_getI (pc := 51) (by decide +kernel : decode k_P_tried.2.1 51 = .ok (.getfield 178, 3)) lg_11_178 (by decide) t12) ?_
      rcases ite_some h with ⟨c13, h⟩ | ⟨c13, h⟩
      · refine ai (r_if_ne_f (pc := 54) 79 (by decide +kernel : decode k_P_tried.2.1 54 = .ok (.ifCond .ne (25), 3)) (by decide) c13) ?_
        refine ai (p_aload_n (pc := 57) (k := 1) (by decide +kernel : decode k_P_tried.2.1 57 = .ok (.aload_n 0, 1)) rfl rfl) ?_
        refine ai (r_iload_n (pc := 58) (k := 4) (by decide +kernel : decode k_P_tried.2.1 58 = .ok (.iload_n 3, 1)) rfl rfl) ?_
        obtain ⟨r14, m15, hr14, h⟩ := bn_some h
        have q16 := P_isName_run hL hr14
        have c17 := (PC_0 hL).1
        have hL := q16.2
        refine ai (q_callV (pc := 59) (As := [.int x3]) (st := []) (st2 := [.int r14]) (b := 0) rfl rfl (by decide +kernel : decode k_P_tried.2.1 59 = .ok (.invokevirtual 181, 3)) lc_11_181 mo_P_isName ⟨Nat.le_of_ble_eq_true rfl, Nat.le_of_ble_eq_true rfl⟩ (Nat.le_of_ble_eq_true rfl) (Nat.le_of_ble_eq_true rfl) c17 q16.1) ?_
        rcases ite_some h with ⟨c18, h⟩ | ⟨c18, h⟩
        · refine ai (r_if_eq_t (pc := 62) (tgt := 79) (by decide +kernel : decode k_P_tried.2.1 62 = .ok (.ifCond .eq (17), 3)) (by decide) c18) ?_
          exact (ai (r_sub [] rfl) (P_tried_79_run hL h))
        · refine ai (r_if_eq_f (pc := 62) 79 (by decide +kernel : decode k_P_tried.2.1 62 = .ok (.ifCond .eq (17), 3)) (by decide) c18) ?_
          refine ai (r_iload (pc := 65) (k := 5) (by decide +kernel : decode k_P_tried.2.1 65 = .ok (.iload 4, 2)) rfl) ?_
          refine ai (r_sipush (pc := 67) (by decide +kernel : decode k_P_tried.2.1 67 = .ok (.sipush (-9999), 3)) (by decide : _ = (-9999 : Int32))) ?_
          refine ai (r_sipush (pc := 70) (by decide +kernel : decode k_P_tried.2.1 70 = .ok (.sipush (9999), 3)) (by decide : _ = (9999 : Int32))) ?_
          obtain ⟨r19, hr19, h⟩ := bp_some h
          refine ai (q_callS (pc := 73) (As := [.int x4, .int (-9999), .int 9999]) (st := []) (st2 := [.int r19]) rfl rfl (by decide +kernel : decode k_P_tried.2.1 73 = .ok (.invokestatic 117, 3)) lc_11_117 mo_P_within ⟨Nat.le_of_ble_eq_true rfl, Nat.le_of_ble_eq_true rfl⟩ (Nat.le_of_ble_eq_true rfl) (Nat.le_of_ble_eq_true rfl) (P_within_run hr19)) ?_
          rcases ite_some h with ⟨c20, h⟩ | ⟨c20, h⟩
          · refine ai (r_if_ne_f (pc := 76) 83 (by decide +kernel : decode k_P_tried.2.1 76 = .ok (.ifCond .ne (7), 3)) (by decide) c20) ?_
            exact (ai (r_sub [] rfl) (P_tried_79_run hL h))
          · refine ai (r_if_ne_t (pc := 76) (tgt := 83) (by decide +kernel : decode k_P_tried.2.1 76 = .ok (.ifCond .ne (7), 3)) (by decide) c20) ?_
            refine ai (r_iload (pc := 83) (k := 6) (by decide +kernel : decode k_P_tried.2.1 83 = .ok (.iload 5, 2)) rfl) ?_
            obtain ⟨r21, hr21, h⟩ := bp_some h
            refine ai (q_callS (pc := 85) (As := [.int x5]) (st := []) (st2 := [.int r21]) rfl rfl (by decide +kernel : decode k_P_tried.2.1 85 = .ok (.invokestatic 184, 3)) lc_11_184 mo_P_isWeek ⟨Nat.le_of_ble_eq_true rfl, Nat.le_of_ble_eq_true rfl⟩ (Nat.le_of_ble_eq_true rfl) (Nat.le_of_ble_eq_true rfl) (P_isWeek_run hr21)) ?_
            rcases ite_some h with ⟨c22, h⟩ | ⟨c22, h⟩
            · refine ai (r_if_eq_t (pc := 88) (tgt := 106) (by decide +kernel : decode k_P_tried.2.1 88 = .ok (.ifCond .eq (18), 3)) (by decide) c22) ?_
              exact (ai (r_sub [] rfl) (P_tried_106_run hL h))
            · refine ai (r_if_eq_f (pc := 88) 106 (by decide +kernel : decode k_P_tried.2.1 88 = .ok (.ifCond .eq (18), 3)) (by decide) c22) ?_
              refine ai (r_iload (pc := 91) (k := 7) (by decide +kernel : decode k_P_tried.2.1 91 = .ok (.iload 6, 2)) rfl) ?_
              obtain ⟨r23, hr23, h⟩ := bp_some h
              refine ai (q_callS (pc := 93) (As := [.int x6]) (st := []) (st2 := [.int r23]) rfl rfl (by decide +kernel : decode k_P_tried.2.1 93 = .ok (.invokestatic 184, 3)) lc_11_184 mo_P_isWeek ⟨Nat.le_of_ble_eq_true rfl, Nat.le_of_ble_eq_true rfl⟩ (Nat.le_of_ble_eq_true rfl) (Nat.le_of_ble_eq_true rfl) (P_isWeek_run hr23)) ?_
              rcases ite_some h with ⟨c24, h⟩ | ⟨c24, h⟩
              · refine ai (r_if_eq_t (pc := 96) (tgt := 106) (by decide +kernel : decode k_P_tried.2.1 96 = .ok (.ifCond .eq (10), 3)) (by decide) c24) ?_
                exact (ai (r_sub [] rfl) (P_tried_106_run hL h))
              · refine ai (r_if_eq_f (pc := 96) 106 (by decide +kernel : decode k_P_tried.2.1 96 = .ok (.ifCond .eq (10), 3)) (by decide) c24) ?_
                refine ai (r_iload (pc := 99) (k := 7) (by decide +kernel : decode k_P_tried.2.1 99 = .ok (.iload 6, 2)) rfl) ?_
                refine ai (r_iload (pc := 101) (k := 6) (by decide +kernel : decode k_P_tried.2.1 101 = .ok (.iload 5, 2)) rfl) ?_
                rcases ite_some h with ⟨c25, h⟩ | ⟨c25, h⟩
                · refine ai (r_icmp_ge_t (pc := 103) (tgt := 110) (by decide +kernel : decode k_P_tried.2.1 103 = .ok (.if_icmp .ge (7), 3)) (by decide) c25) ?_
                  refine ai (p_aload_n (pc := 110) (k := 1) (by decide +kernel : decode k_P_tried.2.1 110 = .ok (.aload_n 0, 1)) rfl rfl) ?_
                  refine ai (p_getr (pc := 111) (PR_1412_0 hL) (by decide +kernel : decode k_P_tried.2.1 111 = .ok (.getfield 51, 3)) lg_11_51 (PC_0 hL).1) ?_
                  refine ai (p_aload (pc := 114) (k := 0) (by decide +kernel : decode k_P_tried.2.1 114 = .ok (.aload 8, 2)) rfl) ?_
                  refine ai (r_iload_n (pc := 116) (k := 4) (by decide +kernel : decode k_P_tried.2.1 116 = .ok (.iload_n 3, 1)) rfl rfl) ?_
                  refine ai (r_iload (pc := 117) (k := 5) (by decide +kernel : decode k_P_tried.2.1 117 = .ok (.iload 4, 2)) rfl) ?_
                  obtain ⟨r26, m27, hr26, h⟩ := bn_some h
                  have q28 := P_Scene_suppose_run hL hr26
                  have c29 := (PC_25 hL).1
                  have hL := q28.2
                  refine ai (q_callV (pc := 119) (As := [.ref a11, .int x3, .int x4]) (st := []) (st2 := []) (b := 25) rfl rfl (by decide +kernel : decode k_P_tried.2.1 119 = .ok (.invokevirtual 329, 3)) lc_11_329 mo_P_Scene_suppose ⟨Nat.le_of_ble_eq_true rfl, Nat.le_of_ble_eq_true rfl⟩ (Nat.le_of_ble_eq_true rfl) (Nat.le_of_ble_eq_true rfl) c29 q28.1) ?_
                  refine ai (r_lconst (pc := 122) (x := 0) (by decide +kernel : decode k_P_tried.2.1 122 = .ok (.lconst 0, 1)) (by decide)) ?_
                  refine ai (e_lstore (pc := 123) rfl (by decide +kernel : decode k_P_tried.2.1 123 = .ok (.lstore 9, 2)) (by decide) rfl (ls2 := [(9, .long 0), (8, .ref a11), (0, .ref 0), (1, .int x1), (2, .int x2), (3, .int x3), (4, .int x4), (5, .int x5), (6, .int x6), (7, .int x7)]) (i := 9)) ?_
                  refine ai (r_iconst (pc := 125) (by decide +kernel : decode k_P_tried.2.1 125 = .ok (.iconst 0, 1)) ic_0) ?_
                  refine ai (e_istore (pc := 126) rfl (by decide +kernel : decode k_P_tried.2.1 126 = .ok (.istore 11, 2)) (by decide) rfl (ls2 := [(11, .int 0), (9, .long 0), (8, .ref a11), (0, .ref 0), (1, .int x1), (2, .int x2), (3, .int x3), (4, .int x4), (5, .int x5), (6, .int x6), (7, .int x7)]) (i := 11)) ?_
                  exact (ai (r_sub [3, 4, 8, 9, 10, 1, 0] rfl) (P_tried_128_run hL h))
                · refine ai (r_icmp_ge_f (pc := 103) 110 (by decide +kernel : decode k_P_tried.2.1 103 = .ok (.if_icmp .ge (7), 3)) (by decide) c25) ?_
                  exact (ai (r_sub [] rfl) (P_tried_106_run hL h))
      · refine ai (r_if_ne_t (pc := 54) (tgt := 79) (by decide +kernel : decode k_P_tried.2.1 54 = .ok (.ifCond .ne (25), 3)) (by decide) c13) ?_
        exact (ai (r_sub [] rfl) (P_tried_79_run hL h))
set_option maxRecDepth 100000 in
set_option maxHeartbeats 4000000 in
theorem P_tried_run {x1 : Int32} {x2 : Int32} {x3 : Int32} {x4 : Int32} {x5 : Int32} {x6 : Int32} {x7 : Int32} {m m' : Mem} {r : Int64} (hL : PL m) (h : P_tried x1 x2 x3 x4 x5 x6 x7 m = some (r, m')) : Run k_P_tried 0 [(0, .ref 0), (1, .int x1), (2, .int x2), (3, .int x3), (4, .int x4), (5, .int x5), (6, .int x6), (7, .int x7)] [] m (some (.long r)) m' ∧ PL m' := by
  unfold P_tried at h
  refine ai (r_iload_n (pc := 0) (k := 1) (by decide +kernel : decode k_P_tried.2.1 0 = .ok (.iload_n 1, 1)) rfl rfl) ?_
  refine ai (r_iconst (pc := 1) (by decide +kernel : decode k_P_tried.2.1 1 = .ok (.iconst (-1), 1)) ic_m1) ?_
  rcases ite_some h with ⟨c1, h⟩ | ⟨c1, h⟩
  · refine ai (r_icmp_eq_t (pc := 2) (tgt := 16) (by decide +kernel : decode k_P_tried.2.1 2 = .ok (.if_icmp .eq (14), 3)) (by decide) c1) ?_
    exact (P_tried_16_run hL h)
  · refine ai (r_icmp_eq_f (pc := 2) 16 (by decide +kernel : decode k_P_tried.2.1 2 = .ok (.if_icmp .eq (14), 3)) (by decide) c1) ?_
    refine ai (p_aload_n (pc := 5) (k := 0) (by decide +kernel : decode k_P_tried.2.1 5 = .ok (.aload_n 0, 1)) rfl rfl) ?_
    refine ai (p_getr (pc := 6) (PR_1408_0 hL) (by decide +kernel : decode k_P_tried.2.1 6 = .ok (.getfield 19, 3)) lg_11_19 (PC_0 hL).1) ?_
    refine ai (r_iload_n (pc := 9) (k := 1) (by decide +kernel : decode k_P_tried.2.1 9 = .ok (.iload_n 1, 1)) rfl rfl) ?_
    obtain ⟨r2, m3, hr2, h⟩ := bn_some h
    have q4 := P_Land_hasFirm_run hL hr2
    have c5 := (PC_5 hL).1
    have hL := q4.2
    refine ai (q_callV (pc := 10) (As := [.int x1]) (st := []) (st2 := [.int r2]) (b := 5) rfl rfl (by decide +kernel : decode k_P_tried.2.1 10 = .ok (.invokevirtual 125, 3)) lc_11_125 mo_P_Land_hasFirm ⟨Nat.le_of_ble_eq_true rfl, Nat.le_of_ble_eq_true rfl⟩ (Nat.le_of_ble_eq_true rfl) (Nat.le_of_ble_eq_true rfl) c5 q4.1) ?_
    rcases ite_some h with ⟨c6, h⟩ | ⟨c6, h⟩
    · refine ai (r_if_eq_t (pc := 13) (tgt := 28) (by decide +kernel : decode k_P_tried.2.1 13 = .ok (.ifCond .eq (15), 3)) (by decide) c6) ?_
      exact (ai (r_sub [] rfl) (P_tried_28_run hL h))
    · refine ai (r_if_eq_f (pc := 13) 28 (by decide +kernel : decode k_P_tried.2.1 13 = .ok (.ifCond .eq (15), 3)) (by decide) c6) ?_
      exact (P_tried_16_run hL h)
set_option maxRecDepth 100000 in
set_option maxHeartbeats 4000000 in
theorem P_value_run {x1 : Int32} {x2 : Int32} {m m' : Mem} {r : Int32} (hL : PL m) (h : P_value x1 x2 m = some (r, m')) : Run k_P_value 0 [(0, .ref 0), (1, .int x1), (2, .int x2)] [] m (some (.int r)) m' ∧ PL m' := by
  unfold P_value at h
  refine ai (r_iload_n (pc := 0) (k := 1) (by decide +kernel : decode k_P_value.2.1 0 = .ok (.iload_n 1, 1)) rfl rfl) ?_
  obtain ⟨r1, hr1, h⟩ := bp_some h
  refine ai (q_callS (pc := 1) (As := [.int x1]) (st := []) (st2 := [.int r1]) rfl rfl (by decide +kernel : decode k_P_value.2.1 1 = .ok (.invokestatic 132, 3)) lc_11_132 mo_P_isTask ⟨Nat.le_of_ble_eq_true rfl, Nat.le_of_ble_eq_true rfl⟩ (Nat.le_of_ble_eq_true rfl) (Nat.le_of_ble_eq_true rfl) (P_isTask_run hr1)) ?_
  rcases ite_some h with ⟨c2, h⟩ | ⟨c2, h⟩
  · refine ai (r_if_eq_t (pc := 4) (tgt := 18) (by decide +kernel : decode k_P_value.2.1 4 = .ok (.ifCond .eq (14), 3)) (by decide) c2) ?_
    refine ai (r_iconst (pc := 18) (by decide +kernel : decode k_P_value.2.1 18 = .ok (.iconst 0, 1)) ic_0) ?_
    cases h
    exact ⟨r_zret (by decide) rfl (by decide +kernel : decode k_P_value.2.1 19 = .ok (.ireturn, 1)), hL⟩
  · refine ai (r_if_eq_f (pc := 4) 18 (by decide +kernel : decode k_P_value.2.1 4 = .ok (.ifCond .eq (14), 3)) (by decide) c2) ?_
    refine ai (r_iload_n (pc := 7) (k := 2) (by decide +kernel : decode k_P_value.2.1 7 = .ok (.iload_n 2, 1)) rfl rfl) ?_
    refine ai (r_iconst (pc := 8) (by decide +kernel : decode k_P_value.2.1 8 = .ok (.iconst 0, 1)) ic_0) ?_
    refine ai (r_sipush (pc := 9) (by decide +kernel : decode k_P_value.2.1 9 = .ok (.sipush (999), 3)) (by decide : _ = (999 : Int32))) ?_
    obtain ⟨r3, hr3, h⟩ := bp_some h
    refine ai (q_callS (pc := 12) (As := [.int x2, .int 0, .int 999]) (st := []) (st2 := [.int r3]) rfl rfl (by decide +kernel : decode k_P_value.2.1 12 = .ok (.invokestatic 117, 3)) lc_11_117 mo_P_within ⟨Nat.le_of_ble_eq_true rfl, Nat.le_of_ble_eq_true rfl⟩ (Nat.le_of_ble_eq_true rfl) (Nat.le_of_ble_eq_true rfl) (P_within_run hr3)) ?_
    rcases ite_some h with ⟨c4, h⟩ | ⟨c4, h⟩
    · refine ai (r_if_ne_f (pc := 15) 20 (by decide +kernel : decode k_P_value.2.1 15 = .ok (.ifCond .ne (5), 3)) (by decide) c4) ?_
      refine ai (r_iconst (pc := 18) (by decide +kernel : decode k_P_value.2.1 18 = .ok (.iconst 0, 1)) ic_0) ?_
      cases h
      exact ⟨r_zret (by decide) rfl (by decide +kernel : decode k_P_value.2.1 19 = .ok (.ireturn, 1)), hL⟩
    · refine ai (r_if_ne_t (pc := 15) (tgt := 20) (by decide +kernel : decode k_P_value.2.1 15 = .ok (.ifCond .ne (5), 3)) (by decide) c4) ?_
      refine ai (p_aload_n (pc := 20) (k := 0) (by decide +kernel : decode k_P_value.2.1 20 = .ok (.aload_n 0, 1)) rfl rfl) ?_
      refine ai (p_getr (pc := 21) (PR_1414_0 hL) (by decide +kernel : decode k_P_value.2.1 21 = .ok (.getfield 67, 3)) lg_11_67 (PC_0 hL).1) ?_
      refine ai (p_getr (pc := 24) (PR_896_41 hL) (by decide +kernel : decode k_P_value.2.1 24 = .ok (.getfield 339, 3)) lg_11_339 (PC_41 hL).1) ?_
      refine ai (r_iload_n (pc := 27) (k := 1) (by decide +kernel : decode k_P_value.2.1 27 = .ok (.iload_n 1, 1)) rfl rfl) ?_
      refine ai (r_iload_n (pc := 28) (k := 2) (by decide +kernel : decode k_P_value.2.1 28 = .ok (.iload_n 2, 1)) rfl rfl) ?_
      obtain ⟨g5, h⟩ := gd_some h
      have c6 := (PC_42 hL).1
      have c7 := (PC_42 hL).2
      obtain ⟨m8, hm8, h⟩ := vb_some h
      have hL : PL m8 := by rw [hm8]; exact hL
      refine ai (p_iast (pc := 29) hm8 (by decide +kernel : decode k_P_value.2.1 29 = .ok (.iastore, 1)) c6 c7 g5) ?_
      refine ai (r_iconst (pc := 30) (by decide +kernel : decode k_P_value.2.1 30 = .ok (.iconst 1, 1)) ic_1) ?_
      cases h
      exact ⟨r_zret (by decide) rfl (by decide +kernel : decode k_P_value.2.1 31 = .ok (.ireturn, 1)), hL⟩
set_option maxRecDepth 100000 in
set_option maxHeartbeats 4000000 in
theorem P_Parting_setApart_37_run {s0 : Int32} {s1 : Int32} {m m' : Mem} {r : Unit} (hL : PL m) (h : P_Parting_setApart_37 s0 s1 m = some (r, m')) : Run k_P_Parting_setApart 37 [] [.int s0, .int s1, .ref 43] m none m' ∧ PL m' := by
  unfold P_Parting_setApart_37 at h
  obtain ⟨g1, h⟩ := gd_some h
  have c2 := (PC_43 hL).1
  have c3 := (PC_43 hL).2
  obtain ⟨m4, hm4, h⟩ := vb_some h
  have hL : PL m4 := by rw [hm4]; exact hL
  refine ai (p_iast (pc := 37) hm4 (by decide +kernel : decode k_P_Parting_setApart.2.1 37 = .ok (.iastore, 1)) c2 c3 g1) ?_
  cases h
  exact ⟨r_vret rfl (by decide +kernel : decode k_P_Parting_setApart.2.1 38 = .ok (.return_, 1)), hL⟩
set_option maxRecDepth 100000 in
set_option maxHeartbeats 4000000 in
theorem P_Parting_setApart_run {x1 : Int32} {x2 : Int32} {x3 : Int32} {m m' : Mem} {r : Unit} (hL : PL m) (h : P_Parting_setApart x1 x2 x3 m = some (r, m')) : Run k_P_Parting_setApart 0 [(0, .ref 41), (1, .int x1), (2, .int x2), (3, .int x3)] [] m none m' ∧ PL m' := by
  unfold P_Parting_setApart at h
  refine ai (r_iconst (pc := 0) (by decide +kernel : decode k_P_Parting_setApart.2.1 0 = .ok (.iconst 1, 1)) ic_1) ?_
  refine ai (r_iload_n (pc := 1) (k := 2) (by decide +kernel : decode k_P_Parting_setApart.2.1 1 = .ok (.iload_n 2, 1)) rfl rfl) ?_
  refine ai (r_ishl (pc := 2) (by decide +kernel : decode k_P_Parting_setApart.2.1 2 = .ok (.ishl, 1))) ?_
  obtain ⟨v1, hv1, h⟩ := vb_some h
  refine ai (e_istore (pc := 3) hv1 (by decide +kernel : decode k_P_Parting_setApart.2.1 3 = .ok (.istore 4, 2)) (by decide) rfl (ls2 := [(4, .int v1), (0, .ref 41), (1, .int x1), (2, .int x2), (3, .int x3)]) (i := 4)) ?_
  refine ai (p_aload_n (pc := 5) (k := 1) (by decide +kernel : decode k_P_Parting_setApart.2.1 5 = .ok (.aload_n 0, 1)) rfl rfl) ?_
  refine ai (p_getr (pc := 6) (PR_897_41 hL) (by decide +kernel : decode k_P_Parting_setApart.2.1 6 = .ok (.getfield 15, 3)) lg_7_15 (PC_41 hL).1) ?_
  refine ai (r_iload_n (pc := 9) (k := 2) (by decide +kernel : decode k_P_Parting_setApart.2.1 9 = .ok (.iload_n 1, 1)) rfl rfl) ?_
  refine ai (r_iload_n (pc := 10) (k := 4) (by decide +kernel : decode k_P_Parting_setApart.2.1 10 = .ok (.iload_n 3, 1)) rfl rfl) ?_
  rcases ite_some h with ⟨c2, h⟩ | ⟨c2, h⟩
  · refine ai (r_if_eq_t (pc := 11) (tgt := 26) (by decide +kernel : decode k_P_Parting_setApart.2.1 11 = .ok (.ifCond .eq (15), 3)) (by decide) c2) ?_
    refine ai (p_aload_n (pc := 26) (k := 1) (by decide +kernel : decode k_P_Parting_setApart.2.1 26 = .ok (.aload_n 0, 1)) rfl rfl) ?_
    refine ai (p_getr (pc := 27) (PR_897_41 hL) (by decide +kernel : decode k_P_Parting_setApart.2.1 27 = .ok (.getfield 15, 3)) lg_7_15 (PC_41 hL).1) ?_
    refine ai (r_iload_n (pc := 30) (k := 2) (by decide +kernel : decode k_P_Parting_setApart.2.1 30 = .ok (.iload_n 1, 1)) rfl rfl) ?_
    obtain ⟨g3, h⟩ := gd_some h
    refine ai (p_iald (pc := 31) (by decide +kernel : decode k_P_Parting_setApart.2.1 31 = .ok (.iaload, 1)) (PC_43 hL).1 (PC_43 hL).2 g3) ?_
    refine ai (r_iload (pc := 32) (k := 0) (by decide +kernel : decode k_P_Parting_setApart.2.1 32 = .ok (.iload 4, 2)) rfl) ?_
    refine ai (r_iconst (pc := 34) (by decide +kernel : decode k_P_Parting_setApart.2.1 34 = .ok (.iconst (-1), 1)) ic_m1) ?_
    refine ai (r_ixor (pc := 35) (by decide +kernel : decode k_P_Parting_setApart.2.1 35 = .ok (.ixor, 1))) ?_
    refine ai (r_iand (pc := 36) (by decide +kernel : decode k_P_Parting_setApart.2.1 36 = .ok (.iand, 1))) ?_
    exact (ai (r_sub [] rfl) (P_Parting_setApart_37_run hL h))
  · refine ai (r_if_eq_f (pc := 11) 26 (by decide +kernel : decode k_P_Parting_setApart.2.1 11 = .ok (.ifCond .eq (15), 3)) (by decide) c2) ?_
    refine ai (p_aload_n (pc := 14) (k := 1) (by decide +kernel : decode k_P_Parting_setApart.2.1 14 = .ok (.aload_n 0, 1)) rfl rfl) ?_
    refine ai (p_getr (pc := 15) (PR_897_41 hL) (by decide +kernel : decode k_P_Parting_setApart.2.1 15 = .ok (.getfield 15, 3)) lg_7_15 (PC_41 hL).1) ?_
    refine ai (r_iload_n (pc := 18) (k := 2) (by decide +kernel : decode k_P_Parting_setApart.2.1 18 = .ok (.iload_n 1, 1)) rfl rfl) ?_
    obtain ⟨g4, h⟩ := gd_some h
    refine ai (p_iald (pc := 19) (by decide +kernel : decode k_P_Parting_setApart.2.1 19 = .ok (.iaload, 1)) (PC_43 hL).1 (PC_43 hL).2 g4) ?_
    refine ai (r_iload (pc := 20) (k := 0) (by decide +kernel : decode k_P_Parting_setApart.2.1 20 = .ok (.iload 4, 2)) rfl) ?_
    refine ai (r_ior (pc := 22) (by decide +kernel : decode k_P_Parting_setApart.2.1 22 = .ok (.ior, 1))) ?_
    refine ai (r_goto (pc := 23) (tgt := 37) (by decide +kernel : decode k_P_Parting_setApart.2.1 23 = .ok (.goto (14), 3)) (by decide)) ?_
    exact (ai (r_sub [] rfl) (P_Parting_setApart_37_run hL h))
set_option maxRecDepth 100000 in
set_option maxHeartbeats 4000000 in
theorem P_apart_run {x1 : Int32} {x2 : Int32} {x3 : Int32} {m m' : Mem} {r : Int32} (hL : PL m) (h : P_apart x1 x2 x3 m = some (r, m')) : Run k_P_apart 0 [(0, .ref 0), (1, .int x1), (2, .int x2), (3, .int x3)] [] m (some (.int r)) m' ∧ PL m' := by
  unfold P_apart at h
  refine ai (r_iload_n (pc := 0) (k := 1) (by decide +kernel : decode k_P_apart.2.1 0 = .ok (.iload_n 1, 1)) rfl rfl) ?_
  obtain ⟨r1, hr1, h⟩ := bp_some h
  refine ai (q_callS (pc := 1) (As := [.int x1]) (st := []) (st2 := [.int r1]) rfl rfl (by decide +kernel : decode k_P_apart.2.1 1 = .ok (.invokestatic 132, 3)) lc_11_132 mo_P_isTask ⟨Nat.le_of_ble_eq_true rfl, Nat.le_of_ble_eq_true rfl⟩ (Nat.le_of_ble_eq_true rfl) (Nat.le_of_ble_eq_true rfl) (P_isTask_run hr1)) ?_
  rcases ite_some h with ⟨c2, h⟩ | ⟨c2, h⟩
  · refine ai (r_if_eq_t (pc := 4) (tgt := 19) (by decide +kernel : decode k_P_apart.2.1 4 = .ok (.ifCond .eq (15), 3)) (by decide) c2) ?_
    refine ai (r_iconst (pc := 19) (by decide +kernel : decode k_P_apart.2.1 19 = .ok (.iconst 0, 1)) ic_0) ?_
    cases h
    exact ⟨r_zret (by decide) rfl (by decide +kernel : decode k_P_apart.2.1 20 = .ok (.ireturn, 1)), hL⟩
  · refine ai (r_if_eq_f (pc := 4) 19 (by decide +kernel : decode k_P_apart.2.1 4 = .ok (.ifCond .eq (15), 3)) (by decide) c2) ?_
    refine ai (r_iload_n (pc := 7) (k := 2) (by decide +kernel : decode k_P_apart.2.1 7 = .ok (.iload_n 2, 1)) rfl rfl) ?_
    obtain ⟨r3, hr3, h⟩ := bp_some h
    refine ai (q_callS (pc := 8) (As := [.int x2]) (st := []) (st2 := [.int r3]) rfl rfl (by decide +kernel : decode k_P_apart.2.1 8 = .ok (.invokestatic 132, 3)) lc_11_132 mo_P_isTask ⟨Nat.le_of_ble_eq_true rfl, Nat.le_of_ble_eq_true rfl⟩ (Nat.le_of_ble_eq_true rfl) (Nat.le_of_ble_eq_true rfl) (P_isTask_run hr3)) ?_
    rcases ite_some h with ⟨c4, h⟩ | ⟨c4, h⟩
    · refine ai (r_if_eq_t (pc := 11) (tgt := 19) (by decide +kernel : decode k_P_apart.2.1 11 = .ok (.ifCond .eq (8), 3)) (by decide) c4) ?_
      refine ai (r_iconst (pc := 19) (by decide +kernel : decode k_P_apart.2.1 19 = .ok (.iconst 0, 1)) ic_0) ?_
      cases h
      exact ⟨r_zret (by decide) rfl (by decide +kernel : decode k_P_apart.2.1 20 = .ok (.ireturn, 1)), hL⟩
    · refine ai (r_if_eq_f (pc := 11) 19 (by decide +kernel : decode k_P_apart.2.1 11 = .ok (.ifCond .eq (8), 3)) (by decide) c4) ?_
      refine ai (r_iload_n (pc := 14) (k := 1) (by decide +kernel : decode k_P_apart.2.1 14 = .ok (.iload_n 1, 1)) rfl rfl) ?_
      refine ai (r_iload_n (pc := 15) (k := 2) (by decide +kernel : decode k_P_apart.2.1 15 = .ok (.iload_n 2, 1)) rfl rfl) ?_
      rcases ite_some h with ⟨c5, h⟩ | ⟨c5, h⟩
      · refine ai (r_icmp_ne_f (pc := 16) 21 (by decide +kernel : decode k_P_apart.2.1 16 = .ok (.if_icmp .ne (5), 3)) (by decide) c5) ?_
        refine ai (r_iconst (pc := 19) (by decide +kernel : decode k_P_apart.2.1 19 = .ok (.iconst 0, 1)) ic_0) ?_
        cases h
        exact ⟨r_zret (by decide) rfl (by decide +kernel : decode k_P_apart.2.1 20 = .ok (.ireturn, 1)), hL⟩
      · refine ai (r_icmp_ne_t (pc := 16) (tgt := 21) (by decide +kernel : decode k_P_apart.2.1 16 = .ok (.if_icmp .ne (5), 3)) (by decide) c5) ?_
        refine ai (p_aload_n (pc := 21) (k := 0) (by decide +kernel : decode k_P_apart.2.1 21 = .ok (.aload_n 0, 1)) rfl rfl) ?_
        refine ai (p_getr (pc := 22) (PR_1414_0 hL) (by decide +kernel : decode k_P_apart.2.1 22 = .ok (.getfield 67, 3)) lg_11_67 (PC_0 hL).1) ?_
        refine ai (r_iload_n (pc := 25) (k := 1) (by decide +kernel : decode k_P_apart.2.1 25 = .ok (.iload_n 1, 1)) rfl rfl) ?_
        refine ai (r_iload_n (pc := 26) (k := 2) (by decide +kernel : decode k_P_apart.2.1 26 = .ok (.iload_n 2, 1)) rfl rfl) ?_
        refine ai (r_iload_n (pc := 27) (k := 3) (by decide +kernel : decode k_P_apart.2.1 27 = .ok (.iload_n 3, 1)) rfl rfl) ?_
        obtain ⟨r6, m7, hr6, h⟩ := bn_some h
        have q8 := P_Parting_setApart_run hL hr6
        have c9 := (PC_41 hL).1
        have hL := q8.2
        refine ai (q_callV (pc := 28) (As := [.int x1, .int x2, .int x3]) (st := []) (st2 := []) (b := 41) rfl rfl (by decide +kernel : decode k_P_apart.2.1 28 = .ok (.invokevirtual 342, 3)) lc_11_342 mo_P_Parting_setApart ⟨Nat.le_of_ble_eq_true rfl, Nat.le_of_ble_eq_true rfl⟩ (Nat.le_of_ble_eq_true rfl) (Nat.le_of_ble_eq_true rfl) c9 q8.1) ?_
        refine ai (p_aload_n (pc := 31) (k := 0) (by decide +kernel : decode k_P_apart.2.1 31 = .ok (.aload_n 0, 1)) rfl rfl) ?_
        refine ai (p_getr (pc := 32) (PR_1414_0 hL) (by decide +kernel : decode k_P_apart.2.1 32 = .ok (.getfield 67, 3)) lg_11_67 (PC_0 hL).1) ?_
        refine ai (r_iload_n (pc := 35) (k := 2) (by decide +kernel : decode k_P_apart.2.1 35 = .ok (.iload_n 2, 1)) rfl rfl) ?_
        refine ai (r_iload_n (pc := 36) (k := 1) (by decide +kernel : decode k_P_apart.2.1 36 = .ok (.iload_n 1, 1)) rfl rfl) ?_
        refine ai (r_iload_n (pc := 37) (k := 3) (by decide +kernel : decode k_P_apart.2.1 37 = .ok (.iload_n 3, 1)) rfl rfl) ?_
        obtain ⟨r10, m11, hr10, h⟩ := bn_some h
        have q12 := P_Parting_setApart_run hL hr10
        have c13 := (PC_41 hL).1
        have hL := q12.2
        refine ai (q_callV (pc := 38) (As := [.int x2, .int x1, .int x3]) (st := []) (st2 := []) (b := 41) rfl rfl (by decide +kernel : decode k_P_apart.2.1 38 = .ok (.invokevirtual 342, 3)) lc_11_342 mo_P_Parting_setApart ⟨Nat.le_of_ble_eq_true rfl, Nat.le_of_ble_eq_true rfl⟩ (Nat.le_of_ble_eq_true rfl) (Nat.le_of_ble_eq_true rfl) c13 q12.1) ?_
        refine ai (r_iconst (pc := 41) (by decide +kernel : decode k_P_apart.2.1 41 = .ok (.iconst 1, 1)) ic_1) ?_
        cases h
        exact ⟨r_zret (by decide) rfl (by decide +kernel : decode k_P_apart.2.1 42 = .ok (.ireturn, 1)), hL⟩
set_option maxRecDepth 100000 in
set_option maxHeartbeats 4000000 in
theorem P_Parting_gather_61_run {k7 : Int32 → Int32 → Mem → Option (Unit × Mem)} {x1 : Int32} {x2 : Int32} {m m' : Mem} {r : Unit} (hk7 : ∀ (x1 : Int32) (x2 : Int32) (m : Mem) (r : Unit) (m' : Mem), PL m → k7 x1 x2 m = some (r, m') → Run k_P_Parting_gather 7 [(0, .ref 41), (1, .int x1), (2, .int x2)] [] m none m' ∧ PL m') (hL : PL m) (h : P_Parting_gather_61 k7 x1 x2 m = some (r, m')) : Run k_P_Parting_gather 61 [(0, .ref 41), (1, .int x1), (2, .int x2)] [] m none m' ∧ PL m' := by
  unfold P_Parting_gather_61 at h
  obtain ⟨v1, hv1, h⟩ := vb_some h
  refine ai (e_iinc (pc := 61) (k := 2) hv1 ic_1 (by decide +kernel : decode k_P_Parting_gather.2.1 61 = .ok (.iinc 2 (1), 3)) rfl (by decide) rfl (ls2 := [(2, .int v1), (0, .ref 41), (1, .int x1)]) (i := 2)) ?_
  refine ai (r_goto (pc := 64) (tgt := 7) (by decide +kernel : decode k_P_Parting_gather.2.1 64 = .ok (.goto (-57), 3)) (by decide)) ?_
  exact (ai (r_sub [1, 2, 0] rfl) (hk7 x1 v1 m _ _ hL h))
set_option maxRecDepth 100000 in
set_option maxHeartbeats 4000000 in
theorem P_Parting_gather_7_run {n : Nat} {x1 : Int32} {x2 : Int32} {m m' : Mem} {r : Unit} (hL : PL m) (h : P_Parting_gather_7 n x1 x2 m = some (r, m')) : Run k_P_Parting_gather 7 [(0, .ref 41), (1, .int x1), (2, .int x2)] [] m none m' ∧ PL m' := by
  induction n generalizing x1 x2 m r m' with
  | zero => exact absurd h (by simp [P_Parting_gather_7])
  | succ n ih =>
    rw [P_Parting_gather_7.eq_2] at h
    refine ai (r_iload_n (pc := 7) (k := 2) (by decide +kernel : decode k_P_Parting_gather.2.1 7 = .ok (.iload_n 2, 1)) rfl rfl) ?_
    refine ai (r_bipush (pc := 8) (by decide +kernel : decode k_P_Parting_gather.2.1 8 = .ok (.bipush (16), 2)) (by decide : _ = (16 : Int32))) ?_
    rcases ite_some h with ⟨c1, h⟩ | ⟨c1, h⟩
    · refine ai (r_icmp_ge_t (pc := 10) (tgt := 67) (by decide +kernel : decode k_P_Parting_gather.2.1 10 = .ok (.if_icmp .ge (57), 3)) (by decide) c1) ?_
      cases h
      exact ⟨r_vret rfl (by decide +kernel : decode k_P_Parting_gather.2.1 67 = .ok (.return_, 1)), hL⟩
    · refine ai (r_icmp_ge_f (pc := 10) 67 (by decide +kernel : decode k_P_Parting_gather.2.1 10 = .ok (.if_icmp .ge (57), 3)) (by decide) c1) ?_
      refine ai (p_aload_n (pc := 13) (k := 0) (by decide +kernel : decode k_P_Parting_gather.2.1 13 = .ok (.aload_n 0, 1)) rfl rfl) ?_
      refine ai (r_getI (pc := 14) (by decide +kernel : decode k_P_Parting_gather.2.1 14 = .ok (.getfield 53, 3)) lg_7_53 (by decide) (PC_41 hL).1) ?_
      refine ai (r_bipush (pc := 17) (by decide +kernel : decode k_P_Parting_gather.2.1 17 = .ok (.bipush (7), 2)) (by decide : _ = (7 : Int32))) ?_
      rcases ite_some h with ⟨c2, h⟩ | ⟨c2, h⟩
      · refine ai (r_icmp_ge_t (pc := 19) (tgt := 67) (by decide +kernel : decode k_P_Parting_gather.2.1 19 = .ok (.if_icmp .ge (48), 3)) (by decide) c2) ?_
        cases h
        exact ⟨r_vret rfl (by decide +kernel : decode k_P_Parting_gather.2.1 67 = .ok (.return_, 1)), hL⟩
      · refine ai (r_icmp_ge_f (pc := 19) 67 (by decide +kernel : decode k_P_Parting_gather.2.1 19 = .ok (.if_icmp .ge (48), 3)) (by decide) c2) ?_
        refine ai (r_iload_n (pc := 22) (k := 1) (by decide +kernel : decode k_P_Parting_gather.2.1 22 = .ok (.iload_n 1, 1)) rfl rfl) ?_
        refine ai (r_iload_n (pc := 23) (k := 2) (by decide +kernel : decode k_P_Parting_gather.2.1 23 = .ok (.iload_n 2, 1)) rfl rfl) ?_
        refine ai (r_ishr (pc := 24) (by decide +kernel : decode k_P_Parting_gather.2.1 24 = .ok (.ishr, 1))) ?_
        refine ai (r_iconst (pc := 25) (by decide +kernel : decode k_P_Parting_gather.2.1 25 = .ok (.iconst 1, 1)) ic_1) ?_
        refine ai (r_iand (pc := 26) (by decide +kernel : decode k_P_Parting_gather.2.1 26 = .ok (.iand, 1))) ?_
        refine ai (r_iconst (pc := 27) (by decide +kernel : decode k_P_Parting_gather.2.1 27 = .ok (.iconst 1, 1)) ic_1) ?_
        rcases ite_some h with ⟨c3, h⟩ | ⟨c3, h⟩
        · refine ai (r_icmp_ne_f (pc := 28) 61 (by decide +kernel : decode k_P_Parting_gather.2.1 28 = .ok (.if_icmp .ne (33), 3)) (by decide) c3) ?_
          refine ai (p_aload_n (pc := 31) (k := 0) (by decide +kernel : decode k_P_Parting_gather.2.1 31 = .ok (.aload_n 0, 1)) rfl rfl) ?_
          refine ai (p_getr (pc := 32) (PR_900_41 hL) (by decide +kernel : decode k_P_Parting_gather.2.1 32 = .ok (.getfield 24, 3)) lg_7_24 (PC_41 hL).1) ?_
          refine ai (p_aload_n (pc := 35) (k := 0) (by decide +kernel : decode k_P_Parting_gather.2.1 35 = .ok (.aload_n 0, 1)) rfl rfl) ?_
          refine ai (r_getI (pc := 36) (by decide +kernel : decode k_P_Parting_gather.2.1 36 = .ok (.getfield 53, 3)) lg_7_53 (by decide) (PC_41 hL).1) ?_
          refine ai (r_iload_n (pc := 39) (k := 2) (by decide +kernel : decode k_P_Parting_gather.2.1 39 = .ok (.iload_n 2, 1)) rfl rfl) ?_
          obtain ⟨g4, h⟩ := gd_some h
          have c5 := (PC_46 hL).1
          have c6 := (PC_46 hL).2
          obtain ⟨m7, hm7, h⟩ := vb_some h
          have hL : PL m7 := by rw [hm7]; exact hL
          refine ai (p_iast (pc := 40) hm7 (by decide +kernel : decode k_P_Parting_gather.2.1 40 = .ok (.iastore, 1)) c5 c6 g4) ?_
          refine ai (p_aload_n (pc := 41) (k := 0) (by decide +kernel : decode k_P_Parting_gather.2.1 41 = .ok (.aload_n 0, 1)) rfl rfl) ?_
          refine ai (p_getr (pc := 42) (PR_902_41 hL) (by decide +kernel : decode k_P_Parting_gather.2.1 42 = .ok (.getfield 27, 3)) lg_7_27 (PC_41 hL).1) ?_
          refine ai (p_aload_n (pc := 45) (k := 0) (by decide +kernel : decode k_P_Parting_gather.2.1 45 = .ok (.aload_n 0, 1)) rfl rfl) ?_
          refine ai (r_getI (pc := 46) (by decide +kernel : decode k_P_Parting_gather.2.1 46 = .ok (.getfield 53, 3)) lg_7_53 (by decide) (PC_41 hL).1) ?_
          refine ai (r_iconst (pc := 49) (by decide +kernel : decode k_P_Parting_gather.2.1 49 = .ok (.iconst 0, 1)) ic_0) ?_
          obtain ⟨g8, h⟩ := gd_some h
          have c9 := (PC_47 hL).1
          have c10 := (PC_47 hL).2
          obtain ⟨m11, hm11, h⟩ := vb_some h
          have hL : PL m11 := by rw [hm11]; exact hL
          refine ai (p_iast (pc := 50) hm11 (by decide +kernel : decode k_P_Parting_gather.2.1 50 = .ok (.iastore, 1)) c9 c10 g8) ?_
          refine ai (p_aload_n (pc := 51) (k := 0) (by decide +kernel : decode k_P_Parting_gather.2.1 51 = .ok (.aload_n 0, 1)) rfl rfl) ?_
          refine ai (r_dup (pc := 52) (by decide +kernel : decode k_P_Parting_gather.2.1 52 = .ok (.dup, 1)) (rfl)) ?_
          refine ai (r_getI (pc := 53) (by decide +kernel : decode k_P_Parting_gather.2.1 53 = .ok (.getfield 53, 3)) lg_7_53 (by decide) (PC_41 hL).1) ?_
          refine ai (r_iconst (pc := 56) (by decide +kernel : decode k_P_Parting_gather.2.1 56 = .ok (.iconst 1, 1)) ic_1) ?_
          refine ai (r_iadd (pc := 57) (by decide +kernel : decode k_P_Parting_gather.2.1 57 = .ok (.iadd, 1))) ?_
          have c12 := (PC_41 hL).1
          obtain ⟨m13, hm13, h⟩ := vb_some h
          have hL : PL m13 := by rw [hm13]; exact hL
          refine ai (p_putI (pc := 58) hm13 (by decide +kernel : decode k_P_Parting_gather.2.1 58 = .ok (.putfield 53, 3)) lp_7_53 c12) ?_
          exact (P_Parting_gather_61_run (fun _ _ _ _ _ q1 q3 => ih q1 q3) hL h)
        · refine ai (r_icmp_ne_t (pc := 28) (tgt := 61) (by decide +kernel : decode k_P_Parting_gather.2.1 28 = .ok (.if_icmp .ne (33), 3)) (by decide) c3) ?_
          exact (P_Parting_gather_61_run (fun _ _ _ _ _ q1 q3 => ih q1 q3) hL h)
set_option maxRecDepth 100000 in
set_option maxHeartbeats 4000000 in
theorem P_Parting_gather_run {x1 : Int32} {m m' : Mem} {r : Unit} (hL : PL m) (h : P_Parting_gather x1 m = some (r, m')) : Run k_P_Parting_gather 0 [(0, .ref 41), (1, .int x1)] [] m none m' ∧ PL m' := by
  unfold P_Parting_gather at h
  refine ai (p_aload_n (pc := 0) (k := 0) (by decide +kernel : decode k_P_Parting_gather.2.1 0 = .ok (.aload_n 0, 1)) rfl rfl) ?_
  refine ai (r_iconst (pc := 1) (by decide +kernel : decode k_P_Parting_gather.2.1 1 = .ok (.iconst 0, 1)) ic_0) ?_
  have c1 := (PC_41 hL).1
  obtain ⟨m2, hm2, h⟩ := vb_some h
  have hL : PL m2 := by rw [hm2]; exact hL
  refine ai (p_putI (pc := 2) hm2 (by decide +kernel : decode k_P_Parting_gather.2.1 2 = .ok (.putfield 53, 3)) lp_7_53 c1) ?_
  refine ai (r_iconst (pc := 5) (by decide +kernel : decode k_P_Parting_gather.2.1 5 = .ok (.iconst 0, 1)) ic_0) ?_
  refine ai (e_istore_n (pc := 6) rfl (by decide +kernel : decode k_P_Parting_gather.2.1 6 = .ok (.istore_n 2, 1)) rfl (by decide) rfl (ls2 := [(2, .int 0), (0, .ref 41), (1, .int x1)]) (i := 2)) ?_
  exact (ai (r_sub [1, 2, 0] rfl) (P_Parting_gather_7_run hL h))
set_option maxRecDepth 100000 in
set_option maxHeartbeats 4000000 in
theorem P_Parting_groupsAmong_4_run {n : Nat} {x1 : Int32} {x2 : Int32} {x3 : Int32} {m m' : Mem} {r : Int32} (hL : PL m) (h : P_Parting_groupsAmong_4 n x1 x2 x3 m = some (r, m')) : Run k_P_Parting_groupsAmong 4 [(0, .ref 41), (1, .int x1), (2, .int x2), (3, .int x3)] [] m (some (.int r)) m' ∧ PL m' := by
  induction n generalizing x1 x2 x3 m r m' with
  | zero => exact absurd h (by simp [P_Parting_groupsAmong_4])
  | succ n ih =>
    rw [P_Parting_groupsAmong_4.eq_2] at h
    refine ai (r_iload_n (pc := 4) (k := 3) (by decide +kernel : decode k_P_Parting_groupsAmong.2.1 4 = .ok (.iload_n 3, 1)) rfl rfl) ?_
    refine ai (r_iload_n (pc := 5) (k := 1) (by decide +kernel : decode k_P_Parting_groupsAmong.2.1 5 = .ok (.iload_n 1, 1)) rfl rfl) ?_
    rcases ite_some h with ⟨c1, h⟩ | ⟨c1, h⟩
    · refine ai (r_icmp_ge_t (pc := 6) (tgt := 28) (by decide +kernel : decode k_P_Parting_groupsAmong.2.1 6 = .ok (.if_icmp .ge (22), 3)) (by decide) c1) ?_
      refine ai (r_iload_n (pc := 28) (k := 2) (by decide +kernel : decode k_P_Parting_groupsAmong.2.1 28 = .ok (.iload_n 2, 1)) rfl rfl) ?_
      cases h
      exact ⟨r_iret rfl (by decide +kernel : decode k_P_Parting_groupsAmong.2.1 29 = .ok (.ireturn, 1)), hL⟩
    · refine ai (r_icmp_ge_f (pc := 6) 28 (by decide +kernel : decode k_P_Parting_groupsAmong.2.1 6 = .ok (.if_icmp .ge (22), 3)) (by decide) c1) ?_
      refine ai (r_iload_n (pc := 9) (k := 2) (by decide +kernel : decode k_P_Parting_groupsAmong.2.1 9 = .ok (.iload_n 2, 1)) rfl rfl) ?_
      refine ai (p_aload_n (pc := 10) (k := 0) (by decide +kernel : decode k_P_Parting_groupsAmong.2.1 10 = .ok (.aload_n 0, 1)) rfl rfl) ?_
      refine ai (p_getr (pc := 11) (PR_902_41 hL) (by decide +kernel : decode k_P_Parting_groupsAmong.2.1 11 = .ok (.getfield 27, 3)) lg_7_27 (PC_41 hL).1) ?_
      refine ai (r_iload_n (pc := 14) (k := 3) (by decide +kernel : decode k_P_Parting_groupsAmong.2.1 14 = .ok (.iload_n 3, 1)) rfl rfl) ?_
      obtain ⟨g2, h⟩ := gd_some h
      refine ai (p_iald (pc := 15) (by decide +kernel : decode k_P_Parting_groupsAmong.2.1 15 = .ok (.iaload, 1)) (PC_47 hL).1 (PC_47 hL).2 g2) ?_
      refine ai (r_iconst (pc := 16) (by decide +kernel : decode k_P_Parting_groupsAmong.2.1 16 = .ok (.iconst 1, 1)) ic_1) ?_
      refine ai (r_iadd (pc := 17) (by decide +kernel : decode k_P_Parting_groupsAmong.2.1 17 = .ok (.iadd, 1))) ?_
      refine ai (r_mmax (pc := 18) (by decide +kernel : decode k_P_Parting_groupsAmong.2.1 18 = .ok (.invokestatic 71, 3)) lm_7_71 lm_mmax_st lm_math lm_mmax_cd ⟨by decide, by decide⟩ (Nat.le_of_ble_eq_true rfl)) ?_
      obtain ⟨v3, hv3, h⟩ := vb_some h
      refine ai (e_istore_n (pc := 21) hv3 (by decide +kernel : decode k_P_Parting_groupsAmong.2.1 21 = .ok (.istore_n 2, 1)) rfl (by decide) rfl (ls2 := [(2, .int v3), (0, .ref 41), (1, .int x1), (3, .int x3)]) (i := 2)) ?_
      obtain ⟨v4, hv4, h⟩ := vb_some h
      refine ai (e_iinc (pc := 22) (k := 3) hv4 ic_1 (by decide +kernel : decode k_P_Parting_groupsAmong.2.1 22 = .ok (.iinc 3 (1), 3)) rfl (by decide) rfl (ls2 := [(3, .int v4), (2, .int v3), (0, .ref 41), (1, .int x1)]) (i := 3)) ?_
      refine ai (r_goto (pc := 25) (tgt := 4) (by decide +kernel : decode k_P_Parting_groupsAmong.2.1 25 = .ok (.goto (-21), 3)) (by decide)) ?_
      exact (ai (r_sub [2, 3, 1, 0] rfl) (ih hL h))
set_option maxRecDepth 100000 in
set_option maxHeartbeats 4000000 in
theorem P_Parting_groupsAmong_run {x1 : Int32} {m m' : Mem} {r : Int32} (hL : PL m) (h : P_Parting_groupsAmong x1 m = some (r, m')) : Run k_P_Parting_groupsAmong 0 [(0, .ref 41), (1, .int x1)] [] m (some (.int r)) m' ∧ PL m' := by
  unfold P_Parting_groupsAmong at h
  refine ai (r_iconst (pc := 0) (by decide +kernel : decode k_P_Parting_groupsAmong.2.1 0 = .ok (.iconst 0, 1)) ic_0) ?_
  refine ai (e_istore_n (pc := 1) rfl (by decide +kernel : decode k_P_Parting_groupsAmong.2.1 1 = .ok (.istore_n 2, 1)) rfl (by decide) rfl (ls2 := [(2, .int 0), (0, .ref 41), (1, .int x1)]) (i := 2)) ?_
  refine ai (r_iconst (pc := 2) (by decide +kernel : decode k_P_Parting_groupsAmong.2.1 2 = .ok (.iconst 0, 1)) ic_0) ?_
  refine ai (e_istore_n (pc := 3) rfl (by decide +kernel : decode k_P_Parting_groupsAmong.2.1 3 = .ok (.istore_n 3, 1)) rfl (by decide) rfl (ls2 := [(3, .int 0), (2, .int 0), (0, .ref 41), (1, .int x1)]) (i := 3)) ?_
  exact (ai (r_sub [2, 3, 1, 0] rfl) (P_Parting_groupsAmong_4_run hL h))
set_option maxRecDepth 100000 in
set_option maxHeartbeats 4000000 in
theorem P_Parting_isTorn_51_run {k4 : Int32 → Int32 → Int32 → Mem → Option (Int32 × Mem)} {x1 : Int32} {x2 : Int32} {x3 : Int32} {m m' : Mem} {r : Int32} (hk4 : ∀ (x1 : Int32) (x2 : Int32) (x3 : Int32) (m : Mem) (r : Int32) (m' : Mem), PL m → k4 x1 x2 x3 m = some (r, m') → Run k_P_Parting_isTorn 4 [(0, .ref 41), (1, .int x1), (2, .int x2), (3, .int x3)] [] m (some (.int r)) m' ∧ PL m') (hL : PL m) (h : P_Parting_isTorn_51 k4 x1 x2 x3 m = some (r, m')) : Run k_P_Parting_isTorn 51 [(0, .ref 41), (1, .int x1), (2, .int x2), (3, .int x3)] [] m (some (.int r)) m' ∧ PL m' := by
  unfold P_Parting_isTorn_51 at h
  obtain ⟨v1, hv1, h⟩ := vb_some h
  refine ai (e_iinc (pc := 51) (k := 3) hv1 ic_1 (by decide +kernel : decode k_P_Parting_isTorn.2.1 51 = .ok (.iinc 3 (1), 3)) rfl (by decide) rfl (ls2 := [(3, .int v1), (0, .ref 41), (1, .int x1), (2, .int x2)]) (i := 3)) ?_
  refine ai (r_goto (pc := 54) (tgt := 4) (by decide +kernel : decode k_P_Parting_isTorn.2.1 54 = .ok (.goto (-50), 3)) (by decide)) ?_
  exact (ai (r_sub [1, 2, 3, 0] rfl) (hk4 x1 x2 v1 m _ _ hL h))
set_option maxRecDepth 100000 in
set_option maxHeartbeats 4000000 in
theorem P_Parting_isTorn_4_run {n : Nat} {x1 : Int32} {x2 : Int32} {x3 : Int32} {m m' : Mem} {r : Int32} (hL : PL m) (h : P_Parting_isTorn_4 n x1 x2 x3 m = some (r, m')) : Run k_P_Parting_isTorn 4 [(0, .ref 41), (1, .int x1), (2, .int x2), (3, .int x3)] [] m (some (.int r)) m' ∧ PL m' := by
  induction n generalizing x1 x2 x3 m r m' with
  | zero => exact absurd h (by simp [P_Parting_isTorn_4])
  | succ n ih =>
    rw [P_Parting_isTorn_4.eq_2] at h
    refine ai (r_iload_n (pc := 4) (k := 3) (by decide +kernel : decode k_P_Parting_isTorn.2.1 4 = .ok (.iload_n 3, 1)) rfl rfl) ?_
    refine ai (p_aload_n (pc := 5) (k := 0) (by decide +kernel : decode k_P_Parting_isTorn.2.1 5 = .ok (.aload_n 0, 1)) rfl rfl) ?_
    refine ai (r_getI (pc := 6) (by decide +kernel : decode k_P_Parting_isTorn.2.1 6 = .ok (.getfield 53, 3)) lg_7_53 (by decide) (PC_41 hL).1) ?_
    rcases ite_some h with ⟨c1, h⟩ | ⟨c1, h⟩
    · refine ai (r_icmp_ge_t (pc := 9) (tgt := 57) (by decide +kernel : decode k_P_Parting_isTorn.2.1 9 = .ok (.if_icmp .ge (48), 3)) (by decide) c1) ?_
      refine ai (r_iconst (pc := 57) (by decide +kernel : decode k_P_Parting_isTorn.2.1 57 = .ok (.iconst 0, 1)) ic_0) ?_
      cases h
      exact ⟨r_zret (by decide) rfl (by decide +kernel : decode k_P_Parting_isTorn.2.1 58 = .ok (.ireturn, 1)), hL⟩
    · refine ai (r_icmp_ge_f (pc := 9) 57 (by decide +kernel : decode k_P_Parting_isTorn.2.1 9 = .ok (.if_icmp .ge (48), 3)) (by decide) c1) ?_
      refine ai (p_aload_n (pc := 12) (k := 0) (by decide +kernel : decode k_P_Parting_isTorn.2.1 12 = .ok (.aload_n 0, 1)) rfl rfl) ?_
      refine ai (p_getr (pc := 13) (PR_902_41 hL) (by decide +kernel : decode k_P_Parting_isTorn.2.1 13 = .ok (.getfield 27, 3)) lg_7_27 (PC_41 hL).1) ?_
      refine ai (r_iload_n (pc := 16) (k := 3) (by decide +kernel : decode k_P_Parting_isTorn.2.1 16 = .ok (.iload_n 3, 1)) rfl rfl) ?_
      obtain ⟨g2, h⟩ := gd_some h
      refine ai (p_iald (pc := 17) (by decide +kernel : decode k_P_Parting_isTorn.2.1 17 = .ok (.iaload, 1)) (PC_47 hL).1 (PC_47 hL).2 g2) ?_
      refine ai (r_iload_n (pc := 18) (k := 1) (by decide +kernel : decode k_P_Parting_isTorn.2.1 18 = .ok (.iload_n 1, 1)) rfl rfl) ?_
      rcases ite_some h with ⟨c3, h⟩ | ⟨c3, h⟩
      · refine ai (r_icmp_ne_f (pc := 19) 51 (by decide +kernel : decode k_P_Parting_isTorn.2.1 19 = .ok (.if_icmp .ne (32), 3)) (by decide) c3) ?_
        refine ai (p_aload_n (pc := 22) (k := 0) (by decide +kernel : decode k_P_Parting_isTorn.2.1 22 = .ok (.aload_n 0, 1)) rfl rfl) ?_
        refine ai (p_getr (pc := 23) (PR_897_41 hL) (by decide +kernel : decode k_P_Parting_isTorn.2.1 23 = .ok (.getfield 15, 3)) lg_7_15 (PC_41 hL).1) ?_
        refine ai (p_aload_n (pc := 26) (k := 0) (by decide +kernel : decode k_P_Parting_isTorn.2.1 26 = .ok (.aload_n 0, 1)) rfl rfl) ?_
        refine ai (p_getr (pc := 27) (PR_900_41 hL) (by decide +kernel : decode k_P_Parting_isTorn.2.1 27 = .ok (.getfield 24, 3)) lg_7_24 (PC_41 hL).1) ?_
        refine ai (r_iload_n (pc := 30) (k := 3) (by decide +kernel : decode k_P_Parting_isTorn.2.1 30 = .ok (.iload_n 3, 1)) rfl rfl) ?_
        obtain ⟨g4, h⟩ := gd_some h
        refine ai (p_iald (pc := 31) (by decide +kernel : decode k_P_Parting_isTorn.2.1 31 = .ok (.iaload, 1)) (PC_46 hL).1 (PC_46 hL).2 g4) ?_
        obtain ⟨g5, h⟩ := gd_some h
        refine ai (p_iald (pc := 32) (by decide +kernel : decode k_P_Parting_isTorn.2.1 32 = .ok (.iaload, 1)) (PC_43 hL).1 (PC_43 hL).2 g5) ?_
        refine ai (r_iload_n (pc := 33) (k := 2) (by decide +kernel : decode k_P_Parting_isTorn.2.1 33 = .ok (.iload_n 2, 1)) rfl rfl) ?_
        refine ai (r_iand (pc := 34) (by decide +kernel : decode k_P_Parting_isTorn.2.1 34 = .ok (.iand, 1))) ?_
        rcases ite_some h with ⟨c6, h⟩ | ⟨c6, h⟩
        · refine ai (r_if_eq_t (pc := 35) (tgt := 40) (by decide +kernel : decode k_P_Parting_isTorn.2.1 35 = .ok (.ifCond .eq (5), 3)) (by decide) c6) ?_
          refine ai (r_iload_n (pc := 40) (k := 2) (by decide +kernel : decode k_P_Parting_isTorn.2.1 40 = .ok (.iload_n 2, 1)) rfl rfl) ?_
          refine ai (r_iconst (pc := 41) (by decide +kernel : decode k_P_Parting_isTorn.2.1 41 = .ok (.iconst 1, 1)) ic_1) ?_
          refine ai (p_aload_n (pc := 42) (k := 0) (by decide +kernel : decode k_P_Parting_isTorn.2.1 42 = .ok (.aload_n 0, 1)) rfl rfl) ?_
          refine ai (p_getr (pc := 43) (PR_900_41 hL) (by decide +kernel : decode k_P_Parting_isTorn.2.1 43 = .ok (.getfield 24, 3)) lg_7_24 (PC_41 hL).1) ?_
          refine ai (r_iload_n (pc := 46) (k := 3) (by decide +kernel : decode k_P_Parting_isTorn.2.1 46 = .ok (.iload_n 3, 1)) rfl rfl) ?_
          obtain ⟨g7, h⟩ := gd_some h
          refine ai (p_iald (pc := 47) (by decide +kernel : decode k_P_Parting_isTorn.2.1 47 = .ok (.iaload, 1)) (PC_46 hL).1 (PC_46 hL).2 g7) ?_
          refine ai (r_ishl (pc := 48) (by decide +kernel : decode k_P_Parting_isTorn.2.1 48 = .ok (.ishl, 1))) ?_
          refine ai (r_ior (pc := 49) (by decide +kernel : decode k_P_Parting_isTorn.2.1 49 = .ok (.ior, 1))) ?_
          obtain ⟨v8, hv8, h⟩ := vb_some h
          refine ai (e_istore_n (pc := 50) hv8 (by decide +kernel : decode k_P_Parting_isTorn.2.1 50 = .ok (.istore_n 2, 1)) rfl (by decide) rfl (ls2 := [(2, .int v8), (0, .ref 41), (1, .int x1), (3, .int x3)]) (i := 2)) ?_
          exact (ai (r_sub [1, 2, 0, 3] rfl) (P_Parting_isTorn_51_run (fun _ _ _ _ _ _ q1 q3 => ih q1 q3) hL h))
        · refine ai (r_if_eq_f (pc := 35) 40 (by decide +kernel : decode k_P_Parting_isTorn.2.1 35 = .ok (.ifCond .eq (5), 3)) (by decide) c6) ?_
          refine ai (r_iconst (pc := 38) (by decide +kernel : decode k_P_Parting_isTorn.2.1 38 = .ok (.iconst 1, 1)) ic_1) ?_
          cases h
          exact ⟨r_zret (by decide) rfl (by decide +kernel : decode k_P_Parting_isTorn.2.1 39 = .ok (.ireturn, 1)), hL⟩
      · refine ai (r_icmp_ne_t (pc := 19) (tgt := 51) (by decide +kernel : decode k_P_Parting_isTorn.2.1 19 = .ok (.if_icmp .ne (32), 3)) (by decide) c3) ?_
        exact (P_Parting_isTorn_51_run (fun _ _ _ _ _ _ q1 q3 => ih q1 q3) hL h)
set_option maxRecDepth 100000 in
set_option maxHeartbeats 4000000 in
theorem P_Parting_isTorn_run {x1 : Int32} {m m' : Mem} {r : Int32} (hL : PL m) (h : P_Parting_isTorn x1 m = some (r, m')) : Run k_P_Parting_isTorn 0 [(0, .ref 41), (1, .int x1)] [] m (some (.int r)) m' ∧ PL m' := by
  unfold P_Parting_isTorn at h
  refine ai (r_iconst (pc := 0) (by decide +kernel : decode k_P_Parting_isTorn.2.1 0 = .ok (.iconst 0, 1)) ic_0) ?_
  refine ai (e_istore_n (pc := 1) rfl (by decide +kernel : decode k_P_Parting_isTorn.2.1 1 = .ok (.istore_n 2, 1)) rfl (by decide) rfl (ls2 := [(2, .int 0), (0, .ref 41), (1, .int x1)]) (i := 2)) ?_
  refine ai (r_iconst (pc := 2) (by decide +kernel : decode k_P_Parting_isTorn.2.1 2 = .ok (.iconst 0, 1)) ic_0) ?_
  refine ai (e_istore_n (pc := 3) rfl (by decide +kernel : decode k_P_Parting_isTorn.2.1 3 = .ok (.istore_n 3, 1)) rfl (by decide) rfl (ls2 := [(3, .int 0), (2, .int 0), (0, .ref 41), (1, .int x1)]) (i := 3)) ?_
  exact (ai (r_sub [2, 3, 1, 0] rfl) (P_Parting_isTorn_4_run hL h))
set_option maxRecDepth 100000 in
set_option maxHeartbeats 4000000 in
theorem P_Parting_withValue_44_run {k5 : Int32 → Int32 → Int32 → Int32 → Mem → Option (Int32 × Mem)} {x1 : Int32} {x2 : Int32} {x3 : Int32} {x4 : Int32} {m m' : Mem} {r : Int32} (hk5 : ∀ (x1 : Int32) (x2 : Int32) (x3 : Int32) (x4 : Int32) (m : Mem) (r : Int32) (m' : Mem), PL m → k5 x1 x2 x3 x4 m = some (r, m') → Run k_P_Parting_withValue 5 [(0, .ref 41), (1, .int x1), (2, .int x2), (3, .int x3), (4, .int x4)] [] m (some (.int r)) m' ∧ PL m') (hL : PL m) (h : P_Parting_withValue_44 k5 x1 x2 x3 x4 m = some (r, m')) : Run k_P_Parting_withValue 44 [(0, .ref 41), (1, .int x1), (2, .int x2), (3, .int x3), (4, .int x4)] [] m (some (.int r)) m' ∧ PL m' := by
  unfold P_Parting_withValue_44 at h
  obtain ⟨v1, hv1, h⟩ := vb_some h
  refine ai (e_iinc (pc := 44) (k := 4) hv1 ic_1 (by decide +kernel : decode k_P_Parting_withValue.2.1 44 = .ok (.iinc 4 (1), 3)) rfl (by decide) rfl (ls2 := [(4, .int v1), (0, .ref 41), (1, .int x1), (2, .int x2), (3, .int x3)]) (i := 4)) ?_
  refine ai (r_goto (pc := 47) (tgt := 5) (by decide +kernel : decode k_P_Parting_withValue.2.1 47 = .ok (.goto (-42), 3)) (by decide)) ?_
  exact (ai (r_sub [1, 2, 3, 4, 0] rfl) (hk5 x1 x2 x3 v1 m _ _ hL h))
set_option maxRecDepth 100000 in
set_option maxHeartbeats 4000000 in
theorem P_Parting_withValue_5_run {n : Nat} {x1 : Int32} {x2 : Int32} {x3 : Int32} {x4 : Int32} {m m' : Mem} {r : Int32} (hL : PL m) (h : P_Parting_withValue_5 n x1 x2 x3 x4 m = some (r, m')) : Run k_P_Parting_withValue 5 [(0, .ref 41), (1, .int x1), (2, .int x2), (3, .int x3), (4, .int x4)] [] m (some (.int r)) m' ∧ PL m' := by
  induction n generalizing x1 x2 x3 x4 m r m' with
  | zero => exact absurd h (by simp [P_Parting_withValue_5])
  | succ n ih =>
    rw [P_Parting_withValue_5.eq_2] at h
    refine ai (r_iload (pc := 5) (k := 4) (by decide +kernel : decode k_P_Parting_withValue.2.1 5 = .ok (.iload 4, 2)) rfl) ?_
    refine ai (p_aload_n (pc := 7) (k := 0) (by decide +kernel : decode k_P_Parting_withValue.2.1 7 = .ok (.aload_n 0, 1)) rfl rfl) ?_
    refine ai (r_getI (pc := 8) (by decide +kernel : decode k_P_Parting_withValue.2.1 8 = .ok (.getfield 53, 3)) lg_7_53 (by decide) (PC_41 hL).1) ?_
    rcases ite_some h with ⟨c1, h⟩ | ⟨c1, h⟩
    · refine ai (r_icmp_ge_t (pc := 11) (tgt := 50) (by decide +kernel : decode k_P_Parting_withValue.2.1 11 = .ok (.if_icmp .ge (39), 3)) (by decide) c1) ?_
      refine ai (r_iload_n (pc := 50) (k := 3) (by decide +kernel : decode k_P_Parting_withValue.2.1 50 = .ok (.iload_n 3, 1)) rfl rfl) ?_
      cases h
      exact ⟨r_iret rfl (by decide +kernel : decode k_P_Parting_withValue.2.1 51 = .ok (.ireturn, 1)), hL⟩
    · refine ai (r_icmp_ge_f (pc := 11) 50 (by decide +kernel : decode k_P_Parting_withValue.2.1 11 = .ok (.if_icmp .ge (39), 3)) (by decide) c1) ?_
      refine ai (p_aload_n (pc := 14) (k := 0) (by decide +kernel : decode k_P_Parting_withValue.2.1 14 = .ok (.aload_n 0, 1)) rfl rfl) ?_
      refine ai (p_getr (pc := 15) (PR_902_41 hL) (by decide +kernel : decode k_P_Parting_withValue.2.1 15 = .ok (.getfield 27, 3)) lg_7_27 (PC_41 hL).1) ?_
      refine ai (r_iload (pc := 18) (k := 4) (by decide +kernel : decode k_P_Parting_withValue.2.1 18 = .ok (.iload 4, 2)) rfl) ?_
      obtain ⟨g2, h⟩ := gd_some h
      refine ai (p_iald (pc := 20) (by decide +kernel : decode k_P_Parting_withValue.2.1 20 = .ok (.iaload, 1)) (PC_47 hL).1 (PC_47 hL).2 g2) ?_
      refine ai (r_iload_n (pc := 21) (k := 1) (by decide +kernel : decode k_P_Parting_withValue.2.1 21 = .ok (.iload_n 1, 1)) rfl rfl) ?_
      rcases ite_some h with ⟨c3, h⟩ | ⟨c3, h⟩
      · refine ai (r_icmp_ne_f (pc := 22) 44 (by decide +kernel : decode k_P_Parting_withValue.2.1 22 = .ok (.if_icmp .ne (22), 3)) (by decide) c3) ?_
        refine ai (p_aload_n (pc := 25) (k := 0) (by decide +kernel : decode k_P_Parting_withValue.2.1 25 = .ok (.aload_n 0, 1)) rfl rfl) ?_
        refine ai (p_getr (pc := 26) (PR_896_41 hL) (by decide +kernel : decode k_P_Parting_withValue.2.1 26 = .ok (.getfield 9, 3)) lg_7_9 (PC_41 hL).1) ?_
        refine ai (p_aload_n (pc := 29) (k := 0) (by decide +kernel : decode k_P_Parting_withValue.2.1 29 = .ok (.aload_n 0, 1)) rfl rfl) ?_
        refine ai (p_getr (pc := 30) (PR_900_41 hL) (by decide +kernel : decode k_P_Parting_withValue.2.1 30 = .ok (.getfield 24, 3)) lg_7_24 (PC_41 hL).1) ?_
        refine ai (r_iload (pc := 33) (k := 4) (by decide +kernel : decode k_P_Parting_withValue.2.1 33 = .ok (.iload 4, 2)) rfl) ?_
        obtain ⟨g4, h⟩ := gd_some h
        refine ai (p_iald (pc := 35) (by decide +kernel : decode k_P_Parting_withValue.2.1 35 = .ok (.iaload, 1)) (PC_46 hL).1 (PC_46 hL).2 g4) ?_
        obtain ⟨g5, h⟩ := gd_some h
        refine ai (p_iald (pc := 36) (by decide +kernel : decode k_P_Parting_withValue.2.1 36 = .ok (.iaload, 1)) (PC_42 hL).1 (PC_42 hL).2 g5) ?_
        refine ai (r_iload_n (pc := 37) (k := 2) (by decide +kernel : decode k_P_Parting_withValue.2.1 37 = .ok (.iload_n 2, 1)) rfl rfl) ?_
        rcases ite_some h with ⟨c6, h⟩ | ⟨c6, h⟩
        · refine ai (r_icmp_ne_f (pc := 38) 44 (by decide +kernel : decode k_P_Parting_withValue.2.1 38 = .ok (.if_icmp .ne (6), 3)) (by decide) c6) ?_
          obtain ⟨v7, hv7, h⟩ := vb_some h
          refine ai (e_iinc (pc := 41) (k := 3) hv7 ic_1 (by decide +kernel : decode k_P_Parting_withValue.2.1 41 = .ok (.iinc 3 (1), 3)) rfl (by decide) rfl (ls2 := [(3, .int v7), (0, .ref 41), (1, .int x1), (2, .int x2), (4, .int x4)]) (i := 3)) ?_
          exact (ai (r_sub [1, 2, 3, 0, 4] rfl) (P_Parting_withValue_44_run (fun _ _ _ _ _ _ _ q1 q3 => ih q1 q3) hL h))
        · refine ai (r_icmp_ne_t (pc := 38) (tgt := 44) (by decide +kernel : decode k_P_Parting_withValue.2.1 38 = .ok (.if_icmp .ne (6), 3)) (by decide) c6) ?_
          exact (P_Parting_withValue_44_run (fun _ _ _ _ _ _ _ q1 q3 => ih q1 q3) hL h)
      · refine ai (r_icmp_ne_t (pc := 22) (tgt := 44) (by decide +kernel : decode k_P_Parting_withValue.2.1 22 = .ok (.if_icmp .ne (22), 3)) (by decide) c3) ?_
        exact (P_Parting_withValue_44_run (fun _ _ _ _ _ _ _ q1 q3 => ih q1 q3) hL h)
set_option maxRecDepth 100000 in
set_option maxHeartbeats 4000000 in
theorem P_Parting_withValue_run {x1 : Int32} {x2 : Int32} {m m' : Mem} {r : Int32} (hL : PL m) (h : P_Parting_withValue x1 x2 m = some (r, m')) : Run k_P_Parting_withValue 0 [(0, .ref 41), (1, .int x1), (2, .int x2)] [] m (some (.int r)) m' ∧ PL m' := by
  unfold P_Parting_withValue at h
  refine ai (r_iconst (pc := 0) (by decide +kernel : decode k_P_Parting_withValue.2.1 0 = .ok (.iconst 0, 1)) ic_0) ?_
  refine ai (e_istore_n (pc := 1) rfl (by decide +kernel : decode k_P_Parting_withValue.2.1 1 = .ok (.istore_n 3, 1)) rfl (by decide) rfl (ls2 := [(3, .int 0), (0, .ref 41), (1, .int x1), (2, .int x2)]) (i := 3)) ?_
  refine ai (r_iconst (pc := 2) (by decide +kernel : decode k_P_Parting_withValue.2.1 2 = .ok (.iconst 0, 1)) ic_0) ?_
  refine ai (e_istore (pc := 3) rfl (by decide +kernel : decode k_P_Parting_withValue.2.1 3 = .ok (.istore 4, 2)) (by decide) rfl (ls2 := [(4, .int 0), (3, .int 0), (0, .ref 41), (1, .int x1), (2, .int x2)]) (i := 4)) ?_
  exact (ai (r_sub [2, 3, 4, 1, 0] rfl) (P_Parting_withValue_5_run hL h))
set_option maxRecDepth 100000 in
set_option maxHeartbeats 4000000 in
theorem P_Parting_settle_76_run {k13 : Int32 → Int32 → Int32 → Int32 → Int32 → Int32 → Mem → Option (Int32 × Mem)} {x1 : Int32} {x2 : Int32} {x3 : Int32} {x4 : Int32} {x5 : Int32} {x6 : Int32} {m m' : Mem} {r : Int32} (hk13 : ∀ (x1 : Int32) (x2 : Int32) (x3 : Int32) (x4 : Int32) (x5 : Int32) (x6 : Int32) (m : Mem) (r : Int32) (m' : Mem), PL m → k13 x1 x2 x3 x4 x5 x6 m = some (r, m') → Run k_P_Parting_settle 13 [(0, .ref 41), (1, .int x1), (2, .int x2), (3, .int x3), (4, .int x4), (5, .int x5), (6, .int x6)] [] m (some (.int r)) m' ∧ PL m') (hL : PL m) (h : P_Parting_settle_76 k13 x1 x2 x3 x4 x5 x6 m = some (r, m')) : Run k_P_Parting_settle 76 [(0, .ref 41), (1, .int x1), (2, .int x2), (3, .int x3), (4, .int x4), (5, .int x5), (6, .int x6)] [] m (some (.int r)) m' ∧ PL m' := by
  unfold P_Parting_settle_76 at h
  obtain ⟨v1, hv1, h⟩ := vb_some h
  refine ai (e_iinc (pc := 76) (k := 6) hv1 ic_1 (by decide +kernel : decode k_P_Parting_settle.2.1 76 = .ok (.iinc 6 (1), 3)) rfl (by decide) rfl (ls2 := [(6, .int v1), (0, .ref 41), (1, .int x1), (2, .int x2), (3, .int x3), (4, .int x4), (5, .int x5)]) (i := 6)) ?_
  refine ai (r_goto (pc := 79) (tgt := 13) (by decide +kernel : decode k_P_Parting_settle.2.1 79 = .ok (.goto (-66), 3)) (by decide)) ?_
  exact (ai (r_sub [1, 2, 3, 4, 5, 6, 0] rfl) (hk13 x1 x2 x3 x4 x5 v1 m _ _ hL h))
set_option maxRecDepth 100000 in
set_option maxHeartbeats 4000000 in
theorem P_Parting_settle_199_run {k108 : Int32 → Int32 → Int32 → Int32 → Int32 → Int32 → Mem → Option (Int32 × Mem)} {x1 : Int32} {x3 : Int32} {x4 : Int32} {x5 : Int32} {x6 : Int32} {x7 : Int32} {m m' : Mem} {r : Int32} (hk108 : ∀ (x1 : Int32) (x3 : Int32) (x4 : Int32) (x5 : Int32) (x6 : Int32) (x7 : Int32) (m : Mem) (r : Int32) (m' : Mem), PL m → k108 x1 x3 x4 x5 x6 x7 m = some (r, m') → Run k_P_Parting_settle 108 [(0, .ref 41), (1, .int x1), (3, .int x3), (4, .int x4), (5, .int x5), (6, .int x6), (7, .int x7)] [] m (some (.int r)) m' ∧ PL m') (hL : PL m) (h : P_Parting_settle_199 k108 x1 x3 x4 x5 x6 x7 m = some (r, m')) : Run k_P_Parting_settle 199 [(0, .ref 41), (1, .int x1), (3, .int x3), (4, .int x4), (5, .int x5), (6, .int x6), (7, .int x7)] [] m (some (.int r)) m' ∧ PL m' := by
  unfold P_Parting_settle_199 at h
  obtain ⟨v1, hv1, h⟩ := vb_some h
  refine ai (e_iinc (pc := 199) (k := 6) hv1 ic_1 (by decide +kernel : decode k_P_Parting_settle.2.1 199 = .ok (.iinc 7 (1), 3)) rfl (by decide) rfl (ls2 := [(7, .int v1), (0, .ref 41), (1, .int x1), (3, .int x3), (4, .int x4), (5, .int x5), (6, .int x6)]) (i := 7)) ?_
  refine ai (r_goto (pc := 202) (tgt := 108) (by decide +kernel : decode k_P_Parting_settle.2.1 202 = .ok (.goto (-94), 3)) (by decide)) ?_
  exact (ai (r_sub [1, 2, 3, 4, 5, 6, 0] rfl) (hk108 x1 x3 x4 x5 x6 v1 m _ _ hL h))
set_option maxRecDepth 100000 in
set_option maxHeartbeats 4000000 in
theorem P_Parting_settle_187_run {k108 : Int32 → Int32 → Int32 → Int32 → Int32 → Int32 → Mem → Option (Int32 × Mem)} {x1 : Int32} {x3 : Int32} {x4 : Int32} {x5 : Int32} {x7 : Int32} {x8 : Int32} {x9 : Int32} {m m' : Mem} {r : Int32} (hk108 : ∀ (x1 : Int32) (x3 : Int32) (x4 : Int32) (x5 : Int32) (x6 : Int32) (x7 : Int32) (m : Mem) (r : Int32) (m' : Mem), PL m → k108 x1 x3 x4 x5 x6 x7 m = some (r, m') → Run k_P_Parting_settle 108 [(0, .ref 41), (1, .int x1), (3, .int x3), (4, .int x4), (5, .int x5), (6, .int x6), (7, .int x7)] [] m (some (.int r)) m' ∧ PL m') (hL : PL m) (h : P_Parting_settle_187 k108 x1 x3 x4 x5 x7 x8 x9 m = some (r, m')) : Run k_P_Parting_settle 187 [(0, .ref 41), (1, .int x1), (3, .int x3), (4, .int x4), (5, .int x5), (7, .int x7), (8, .int x8), (9, .int x9)] [] m (some (.int r)) m' ∧ PL m' := by
  unfold P_Parting_settle_187 at h
  refine ai (p_aload_n (pc := 187) (k := 0) (by decide +kernel : decode k_P_Parting_settle.2.1 187 = .ok (.aload_n 0, 1)) rfl rfl) ?_
  refine ai (p_getr (pc := 188) (PR_903_41 hL) (by decide +kernel : decode k_P_Parting_settle.2.1 188 = .ok (.getfield 30, 3)) lg_7_30 (PC_41 hL).1) ?_
  refine ai (r_iload_n (pc := 191) (k := 1) (by decide +kernel : decode k_P_Parting_settle.2.1 191 = .ok (.iload_n 1, 1)) rfl rfl) ?_
  refine ai (r_iload (pc := 192) (k := 6) (by decide +kernel : decode k_P_Parting_settle.2.1 192 = .ok (.iload 8, 2)) rfl) ?_
  obtain ⟨g1, h⟩ := gd_some h
  have c2 := (PC_48 hL).1
  have c3 := (PC_48 hL).2
  obtain ⟨m4, hm4, h⟩ := vb_some h
  have hL : PL m4 := by rw [hm4]; exact hL
  refine ai (p_iast (pc := 194) hm4 (by decide +kernel : decode k_P_Parting_settle.2.1 194 = .ok (.iastore, 1)) c2 c3 g1) ?_
  refine ai (r_iload (pc := 195) (k := 7) (by decide +kernel : decode k_P_Parting_settle.2.1 195 = .ok (.iload 9, 2)) rfl) ?_
  refine ai (e_istore (pc := 197) rfl (by decide +kernel : decode k_P_Parting_settle.2.1 197 = .ok (.istore 6, 2)) (by decide) rfl (ls2 := [(6, .int x9), (0, .ref 41), (1, .int x1), (3, .int x3), (4, .int x4), (5, .int x5), (7, .int x7), (8, .int x8), (9, .int x9)]) (i := 6)) ?_
  exact (ai (r_sub [1, 2, 3, 4, 5, 0, 6] rfl) (P_Parting_settle_199_run hk108 hL h))
set_option maxRecDepth 100000 in
set_option maxHeartbeats 4000000 in
theorem P_Parting_settle_205_run {x5 : Int32} {x6 : Int32} {m m' : Mem} {r : Int32} (hL : PL m) (h : P_Parting_settle_205 x5 x6 m = some (r, m')) : Run k_P_Parting_settle 205 [(5, .int x5), (6, .int x6)] [] m (some (.int r)) m' ∧ PL m' := by
  unfold P_Parting_settle_205 at h
  refine ai (r_iload (pc := 205) (k := 0) (by decide +kernel : decode k_P_Parting_settle.2.1 205 = .ok (.iload 5, 2)) rfl) ?_
  refine ai (r_iload (pc := 207) (k := 1) (by decide +kernel : decode k_P_Parting_settle.2.1 207 = .ok (.iload 6, 2)) rfl) ?_
  refine ai (r_isub (pc := 209) (by decide +kernel : decode k_P_Parting_settle.2.1 209 = .ok (.isub, 1))) ?_
  cases h
  exact ⟨r_iret rfl (by decide +kernel : decode k_P_Parting_settle.2.1 210 = .ok (.ireturn, 1)), hL⟩
set_option maxRecDepth 100000 in
set_option maxHeartbeats 4000000 in
theorem P_Parting_settle_108_run {n : Nat} {x1 : Int32} {x3 : Int32} {x4 : Int32} {x5 : Int32} {x6 : Int32} {x7 : Int32} {m m' : Mem} {r : Int32} (hL : PL m) (h : P_Parting_settle_108 n x1 x3 x4 x5 x6 x7 m = some (r, m')) : Run k_P_Parting_settle 108 [(0, .ref 41), (1, .int x1), (3, .int x3), (4, .int x4), (5, .int x5), (6, .int x6), (7, .int x7)] [] m (some (.int r)) m' ∧ PL m' := by
  induction n generalizing x1 x3 x4 x5 x6 x7 m r m' with
  | zero => exact absurd h (by simp [P_Parting_settle_108])
  | succ n ih =>
    rw [P_Parting_settle_108.eq_2] at h
    refine ai (r_iload (pc := 108) (k := 6) (by decide +kernel : decode k_P_Parting_settle.2.1 108 = .ok (.iload 7, 2)) rfl) ?_
    refine ai (p_aload_n (pc := 110) (k := 0) (by decide +kernel : decode k_P_Parting_settle.2.1 110 = .ok (.aload_n 0, 1)) rfl rfl) ?_
    refine ai (r_getI (pc := 111) (by decide +kernel : decode k_P_Parting_settle.2.1 111 = .ok (.getfield 53, 3)) lg_7_53 (by decide) (PC_41 hL).1) ?_
    rcases ite_some h with ⟨c1, h⟩ | ⟨c1, h⟩
    · refine ai (r_icmp_ge_t (pc := 114) (tgt := 205) (by decide +kernel : decode k_P_Parting_settle.2.1 114 = .ok (.if_icmp .ge (91), 3)) (by decide) c1) ?_
      exact (ai (r_sub [4, 5] rfl) (P_Parting_settle_205_run hL h))
    · refine ai (r_icmp_ge_f (pc := 114) 205 (by decide +kernel : decode k_P_Parting_settle.2.1 114 = .ok (.if_icmp .ge (91), 3)) (by decide) c1) ?_
      refine ai (p_aload_n (pc := 117) (k := 0) (by decide +kernel : decode k_P_Parting_settle.2.1 117 = .ok (.aload_n 0, 1)) rfl rfl) ?_
      refine ai (p_getr (pc := 118) (PR_896_41 hL) (by decide +kernel : decode k_P_Parting_settle.2.1 118 = .ok (.getfield 9, 3)) lg_7_9 (PC_41 hL).1) ?_
      refine ai (p_aload_n (pc := 121) (k := 0) (by decide +kernel : decode k_P_Parting_settle.2.1 121 = .ok (.aload_n 0, 1)) rfl rfl) ?_
      refine ai (p_getr (pc := 122) (PR_900_41 hL) (by decide +kernel : decode k_P_Parting_settle.2.1 122 = .ok (.getfield 24, 3)) lg_7_24 (PC_41 hL).1) ?_
      refine ai (r_iload (pc := 125) (k := 6) (by decide +kernel : decode k_P_Parting_settle.2.1 125 = .ok (.iload 7, 2)) rfl) ?_
      obtain ⟨g2, h⟩ := gd_some h
      refine ai (p_iald (pc := 127) (by decide +kernel : decode k_P_Parting_settle.2.1 127 = .ok (.iaload, 1)) (PC_46 hL).1 (PC_46 hL).2 g2) ?_
      obtain ⟨g3, h⟩ := gd_some h
      refine ai (p_iald (pc := 128) (by decide +kernel : decode k_P_Parting_settle.2.1 128 = .ok (.iaload, 1)) (PC_42 hL).1 (PC_42 hL).2 g3) ?_
      obtain ⟨v4, hv4, h⟩ := vb_some h
      refine ai (e_istore (pc := 129) hv4 (by decide +kernel : decode k_P_Parting_settle.2.1 129 = .ok (.istore 8, 2)) (by decide) rfl (ls2 := [(8, .int v4), (0, .ref 41), (1, .int x1), (3, .int x3), (4, .int x4), (5, .int x5), (6, .int x6), (7, .int x7)]) (i := 8)) ?_
      refine ai (p_aload_n (pc := 131) (k := 1) (by decide +kernel : decode k_P_Parting_settle.2.1 131 = .ok (.aload_n 0, 1)) rfl rfl) ?_
      refine ai (p_getr (pc := 132) (PR_902_41 hL) (by decide +kernel : decode k_P_Parting_settle.2.1 132 = .ok (.getfield 27, 3)) lg_7_27 (PC_41 hL).1) ?_
      refine ai (r_iload (pc := 135) (k := 7) (by decide +kernel : decode k_P_Parting_settle.2.1 135 = .ok (.iload 7, 2)) rfl) ?_
      obtain ⟨g5, h⟩ := gd_some h
      refine ai (p_iald (pc := 137) (by decide +kernel : decode k_P_Parting_settle.2.1 137 = .ok (.iaload, 1)) (PC_47 hL).1 (PC_47 hL).2 g5) ?_
      refine ai (r_iload_n (pc := 138) (k := 2) (by decide +kernel : decode k_P_Parting_settle.2.1 138 = .ok (.iload_n 1, 1)) rfl rfl) ?_
      rcases ite_some h with ⟨c6, h⟩ | ⟨c6, h⟩
      · refine ai (r_icmp_ne_f (pc := 139) 199 (by decide +kernel : decode k_P_Parting_settle.2.1 139 = .ok (.if_icmp .ne (60), 3)) (by decide) c6) ?_
        refine ai (r_iload (pc := 142) (k := 0) (by decide +kernel : decode k_P_Parting_settle.2.1 142 = .ok (.iload 8, 2)) rfl) ?_
        refine ai (r_iload_n (pc := 144) (k := 3) (by decide +kernel : decode k_P_Parting_settle.2.1 144 = .ok (.iload_n 3, 1)) rfl rfl) ?_
        refine ai (r_iload (pc := 145) (k := 4) (by decide +kernel : decode k_P_Parting_settle.2.1 145 = .ok (.iload 4, 2)) rfl) ?_
        obtain ⟨r7, hr7, h⟩ := bp_some h
        refine ai (q_callSN (pc := 147) (As := [.int v4, .int x3, .int x4]) (st := []) (st2 := [.int r7]) rfl rfl (by decide +kernel : decode k_P_Parting_settle.2.1 147 = .ok (.invokestatic 99, 3)) lc_7_99 mo_P_within ⟨Nat.le_of_ble_eq_true rfl, Nat.le_of_ble_eq_true rfl⟩ (Nat.le_of_ble_eq_true rfl) (Nat.le_of_ble_eq_true rfl) (P_within_run hr7)) ?_
        rcases ite_some h with ⟨c8, h⟩ | ⟨c8, h⟩
        · refine ai (r_if_eq_t (pc := 150) (tgt := 199) (by decide +kernel : decode k_P_Parting_settle.2.1 150 = .ok (.ifCond .eq (49), 3)) (by decide) c8) ?_
          exact (ai (r_sub [1, 2, 3, 4, 5, 6, 7] rfl) (P_Parting_settle_199_run (fun _ _ _ _ _ _ _ _ _ q1 q3 => ih q1 q3) hL h))
        · refine ai (r_if_eq_f (pc := 150) 199 (by decide +kernel : decode k_P_Parting_settle.2.1 150 = .ok (.ifCond .eq (49), 3)) (by decide) c8) ?_
          refine ai (p_aload_n (pc := 153) (k := 1) (by decide +kernel : decode k_P_Parting_settle.2.1 153 = .ok (.aload_n 0, 1)) rfl rfl) ?_
          refine ai (r_iload_n (pc := 154) (k := 2) (by decide +kernel : decode k_P_Parting_settle.2.1 154 = .ok (.iload_n 1, 1)) rfl rfl) ?_
          refine ai (r_iload (pc := 155) (k := 0) (by decide +kernel : decode k_P_Parting_settle.2.1 155 = .ok (.iload 8, 2)) rfl) ?_
          obtain ⟨r9, m10, hr9, h⟩ := bn_some h
          have q11 := P_Parting_withValue_run hL hr9
          have c12 := (PC_41 hL).1
          have hL := q11.2
          refine ai (q_callV (pc := 157) (As := [.int x1, .int v4]) (st := []) (st2 := [.int r9]) (b := 41) rfl rfl (by decide +kernel : decode k_P_Parting_settle.2.1 157 = .ok (.invokevirtual 96, 3)) lc_7_96 mo_P_Parting_withValue ⟨Nat.le_of_ble_eq_true rfl, Nat.le_of_ble_eq_true rfl⟩ (Nat.le_of_ble_eq_true rfl) (Nat.le_of_ble_eq_true rfl) c12 q11.1) ?_
          refine ai (e_istore (pc := 160) rfl (by decide +kernel : decode k_P_Parting_settle.2.1 160 = .ok (.istore 9, 2)) (by decide) rfl (ls2 := [(9, .int r9), (8, .int v4), (0, .ref 41), (1, .int x1), (3, .int x3), (4, .int x4), (5, .int x5), (6, .int x6), (7, .int x7)]) (i := 9)) ?_
          refine ai (r_iload (pc := 162) (k := 0) (by decide +kernel : decode k_P_Parting_settle.2.1 162 = .ok (.iload 9, 2)) rfl) ?_
          refine ai (r_iload (pc := 164) (k := 7) (by decide +kernel : decode k_P_Parting_settle.2.1 164 = .ok (.iload 6, 2)) rfl) ?_
          rcases ite_some h with ⟨c13, h⟩ | ⟨c13, h⟩
          · refine ai (r_icmp_gt_t (pc := 166) (tgt := 187) (by decide +kernel : decode k_P_Parting_settle.2.1 166 = .ok (.if_icmp .gt (21), 3)) (by decide) c13) ?_
            exact (ai (r_sub [2, 3, 4, 5, 6, 8, 1, 0] rfl) (P_Parting_settle_187_run (fun _ _ _ _ _ _ _ _ _ q1 q3 => ih q1 q3) hL h))
          · refine ai (r_icmp_gt_f (pc := 166) 187 (by decide +kernel : decode k_P_Parting_settle.2.1 166 = .ok (.if_icmp .gt (21), 3)) (by decide) c13) ?_
            refine ai (r_iload (pc := 169) (k := 0) (by decide +kernel : decode k_P_Parting_settle.2.1 169 = .ok (.iload 9, 2)) rfl) ?_
            refine ai (r_iload (pc := 171) (k := 7) (by decide +kernel : decode k_P_Parting_settle.2.1 171 = .ok (.iload 6, 2)) rfl) ?_
            rcases ite_some h with ⟨c14, h⟩ | ⟨c14, h⟩
            · refine ai (r_icmp_ne_f (pc := 173) 199 (by decide +kernel : decode k_P_Parting_settle.2.1 173 = .ok (.if_icmp .ne (26), 3)) (by decide) c14) ?_
              refine ai (r_iload (pc := 176) (k := 1) (by decide +kernel : decode k_P_Parting_settle.2.1 176 = .ok (.iload 8, 2)) rfl) ?_
              refine ai (p_aload_n (pc := 178) (k := 2) (by decide +kernel : decode k_P_Parting_settle.2.1 178 = .ok (.aload_n 0, 1)) rfl rfl) ?_
              refine ai (p_getr (pc := 179) (PR_903_41 hL) (by decide +kernel : decode k_P_Parting_settle.2.1 179 = .ok (.getfield 30, 3)) lg_7_30 (PC_41 hL).1) ?_
              refine ai (r_iload_n (pc := 182) (k := 3) (by decide +kernel : decode k_P_Parting_settle.2.1 182 = .ok (.iload_n 1, 1)) rfl rfl) ?_
              obtain ⟨g15, h⟩ := gd_some h
              refine ai (p_iald (pc := 183) (by decide +kernel : decode k_P_Parting_settle.2.1 183 = .ok (.iaload, 1)) (PC_48 hL).1 (PC_48 hL).2 g15) ?_
              rcases ite_some h with ⟨c16, h⟩ | ⟨c16, h⟩
              · refine ai (r_icmp_ge_t (pc := 184) (tgt := 199) (by decide +kernel : decode k_P_Parting_settle.2.1 184 = .ok (.if_icmp .ge (15), 3)) (by decide) c16) ?_
                exact (ai (r_sub [2, 3, 4, 5, 6, 7, 8] rfl) (P_Parting_settle_199_run (fun _ _ _ _ _ _ _ _ _ q1 q3 => ih q1 q3) hL h))
              · refine ai (r_icmp_ge_f (pc := 184) 199 (by decide +kernel : decode k_P_Parting_settle.2.1 184 = .ok (.if_icmp .ge (15), 3)) (by decide) c16) ?_
                exact (ai (r_sub [2, 3, 4, 5, 6, 8, 1, 0] rfl) (P_Parting_settle_187_run (fun _ _ _ _ _ _ _ _ _ q1 q3 => ih q1 q3) hL h))
            · refine ai (r_icmp_ne_t (pc := 173) (tgt := 199) (by decide +kernel : decode k_P_Parting_settle.2.1 173 = .ok (.if_icmp .ne (26), 3)) (by decide) c14) ?_
              exact (ai (r_sub [2, 3, 4, 5, 6, 7, 8] rfl) (P_Parting_settle_199_run (fun _ _ _ _ _ _ _ _ _ q1 q3 => ih q1 q3) hL h))
      · refine ai (r_icmp_ne_t (pc := 139) (tgt := 199) (by decide +kernel : decode k_P_Parting_settle.2.1 139 = .ok (.if_icmp .ne (60), 3)) (by decide) c6) ?_
        exact (ai (r_sub [1, 2, 3, 4, 5, 6, 7] rfl) (P_Parting_settle_199_run (fun _ _ _ _ _ _ _ _ _ q1 q3 => ih q1 q3) hL h))
set_option maxRecDepth 100000 in
set_option maxHeartbeats 4000000 in
theorem P_Parting_settle_82_run {x1 : Int32} {x3 : Int32} {x4 : Int32} {x5 : Int32} {m m' : Mem} {r : Int32} (hL : PL m) (h : P_Parting_settle_82 x1 x3 x4 x5 m = some (r, m')) : Run k_P_Parting_settle 82 [(0, .ref 41), (1, .int x1), (3, .int x3), (4, .int x4), (5, .int x5)] [] m (some (.int r)) m' ∧ PL m' := by
  unfold P_Parting_settle_82 at h
  refine ai (r_iload_n (pc := 82) (k := 2) (by decide +kernel : decode k_P_Parting_settle.2.1 82 = .ok (.iload_n 3, 1)) rfl rfl) ?_
  refine ai (r_iload (pc := 83) (k := 3) (by decide +kernel : decode k_P_Parting_settle.2.1 83 = .ok (.iload 4, 2)) rfl) ?_
  rcases ite_some h with ⟨c1, h⟩ | ⟨c1, h⟩
  · refine ai (r_icmp_le_t (pc := 85) (tgt := 90) (by decide +kernel : decode k_P_Parting_settle.2.1 85 = .ok (.if_icmp .le (5), 3)) (by decide) c1) ?_
    refine ai (p_aload_n (pc := 90) (k := 0) (by decide +kernel : decode k_P_Parting_settle.2.1 90 = .ok (.aload_n 0, 1)) rfl rfl) ?_
    refine ai (p_getr (pc := 91) (PR_903_41 hL) (by decide +kernel : decode k_P_Parting_settle.2.1 91 = .ok (.getfield 30, 3)) lg_7_30 (PC_41 hL).1) ?_
    refine ai (r_iload_n (pc := 94) (k := 1) (by decide +kernel : decode k_P_Parting_settle.2.1 94 = .ok (.iload_n 1, 1)) rfl rfl) ?_
    refine ai (r_iload_n (pc := 95) (k := 2) (by decide +kernel : decode k_P_Parting_settle.2.1 95 = .ok (.iload_n 3, 1)) rfl rfl) ?_
    obtain ⟨g2, h⟩ := gd_some h
    have c3 := (PC_48 hL).1
    have c4 := (PC_48 hL).2
    obtain ⟨m5, hm5, h⟩ := vb_some h
    have hL : PL m5 := by rw [hm5]; exact hL
    refine ai (p_iast (pc := 96) hm5 (by decide +kernel : decode k_P_Parting_settle.2.1 96 = .ok (.iastore, 1)) c3 c4 g2) ?_
    refine ai (p_aload_n (pc := 97) (k := 0) (by decide +kernel : decode k_P_Parting_settle.2.1 97 = .ok (.aload_n 0, 1)) rfl rfl) ?_
    refine ai (r_iload_n (pc := 98) (k := 1) (by decide +kernel : decode k_P_Parting_settle.2.1 98 = .ok (.iload_n 1, 1)) rfl rfl) ?_
    refine ai (r_iload_n (pc := 99) (k := 2) (by decide +kernel : decode k_P_Parting_settle.2.1 99 = .ok (.iload_n 3, 1)) rfl rfl) ?_
    obtain ⟨r6, m7, hr6, h⟩ := bn_some h
    have q8 := P_Parting_withValue_run hL hr6
    have c9 := (PC_41 hL).1
    have hL := q8.2
    refine ai (q_callV (pc := 100) (As := [.int x1, .int x3]) (st := []) (st2 := [.int r6]) (b := 41) rfl rfl (by decide +kernel : decode k_P_Parting_settle.2.1 100 = .ok (.invokevirtual 96, 3)) lc_7_96 mo_P_Parting_withValue ⟨Nat.le_of_ble_eq_true rfl, Nat.le_of_ble_eq_true rfl⟩ (Nat.le_of_ble_eq_true rfl) (Nat.le_of_ble_eq_true rfl) c9 q8.1) ?_
    refine ai (e_istore (pc := 103) rfl (by decide +kernel : decode k_P_Parting_settle.2.1 103 = .ok (.istore 6, 2)) (by decide) rfl (ls2 := [(6, .int r6), (0, .ref 41), (1, .int x1), (3, .int x3), (4, .int x4), (5, .int x5)]) (i := 6)) ?_
    refine ai (r_iconst (pc := 105) (by decide +kernel : decode k_P_Parting_settle.2.1 105 = .ok (.iconst 0, 1)) ic_0) ?_
    refine ai (e_istore (pc := 106) rfl (by decide +kernel : decode k_P_Parting_settle.2.1 106 = .ok (.istore 7, 2)) (by decide) rfl (ls2 := [(7, .int 0), (6, .int r6), (0, .ref 41), (1, .int x1), (3, .int x3), (4, .int x4), (5, .int x5)]) (i := 7)) ?_
    exact (ai (r_sub [2, 3, 4, 5, 6, 1, 0] rfl) (P_Parting_settle_108_run hL h))
  · refine ai (r_icmp_le_f (pc := 85) 90 (by decide +kernel : decode k_P_Parting_settle.2.1 85 = .ok (.if_icmp .le (5), 3)) (by decide) c1) ?_
    refine ai (r_iconst (pc := 88) (by decide +kernel : decode k_P_Parting_settle.2.1 88 = .ok (.iconst (-1), 1)) ic_m1) ?_
    cases h
    exact ⟨r_iret rfl (by decide +kernel : decode k_P_Parting_settle.2.1 89 = .ok (.ireturn, 1)), hL⟩
set_option maxRecDepth 100000 in
set_option maxHeartbeats 4000000 in
theorem P_Parting_settle_13_run {n : Nat} {x1 : Int32} {x2 : Int32} {x3 : Int32} {x4 : Int32} {x5 : Int32} {x6 : Int32} {m m' : Mem} {r : Int32} (hL : PL m) (h : P_Parting_settle_13 n x1 x2 x3 x4 x5 x6 m = some (r, m')) : Run k_P_Parting_settle 13 [(0, .ref 41), (1, .int x1), (2, .int x2), (3, .int x3), (4, .int x4), (5, .int x5), (6, .int x6)] [] m (some (.int r)) m' ∧ PL m' := by
  induction n generalizing x1 x2 x3 x4 x5 x6 m r m' with
  | zero => exact absurd h (by simp [P_Parting_settle_13])
  | succ n ih =>
    rw [P_Parting_settle_13.eq_2] at h
    refine ai (r_iload (pc := 13) (k := 6) (by decide +kernel : decode k_P_Parting_settle.2.1 13 = .ok (.iload 6, 2)) rfl) ?_
    refine ai (p_aload_n (pc := 15) (k := 0) (by decide +kernel : decode k_P_Parting_settle.2.1 15 = .ok (.aload_n 0, 1)) rfl rfl) ?_
    refine ai (r_getI (pc := 16) (by decide +kernel : decode k_P_Parting_settle.2.1 16 = .ok (.getfield 53, 3)) lg_7_53 (by decide) (PC_41 hL).1) ?_
    rcases ite_some h with ⟨c1, h⟩ | ⟨c1, h⟩
    · refine ai (r_icmp_ge_t (pc := 19) (tgt := 82) (by decide +kernel : decode k_P_Parting_settle.2.1 19 = .ok (.if_icmp .ge (63), 3)) (by decide) c1) ?_
      exact (ai (r_sub [0, 1, 3, 4, 5] rfl) (P_Parting_settle_82_run hL h))
    · refine ai (r_icmp_ge_f (pc := 19) 82 (by decide +kernel : decode k_P_Parting_settle.2.1 19 = .ok (.if_icmp .ge (63), 3)) (by decide) c1) ?_
      refine ai (p_aload_n (pc := 22) (k := 0) (by decide +kernel : decode k_P_Parting_settle.2.1 22 = .ok (.aload_n 0, 1)) rfl rfl) ?_
      refine ai (p_getr (pc := 23) (PR_902_41 hL) (by decide +kernel : decode k_P_Parting_settle.2.1 23 = .ok (.getfield 27, 3)) lg_7_27 (PC_41 hL).1) ?_
      refine ai (r_iload (pc := 26) (k := 6) (by decide +kernel : decode k_P_Parting_settle.2.1 26 = .ok (.iload 6, 2)) rfl) ?_
      obtain ⟨g2, h⟩ := gd_some h
      refine ai (p_iald (pc := 28) (by decide +kernel : decode k_P_Parting_settle.2.1 28 = .ok (.iaload, 1)) (PC_47 hL).1 (PC_47 hL).2 g2) ?_
      refine ai (r_iload_n (pc := 29) (k := 1) (by decide +kernel : decode k_P_Parting_settle.2.1 29 = .ok (.iload_n 1, 1)) rfl rfl) ?_
      rcases ite_some h with ⟨c3, h⟩ | ⟨c3, h⟩
      · refine ai (r_icmp_ne_f (pc := 30) 76 (by decide +kernel : decode k_P_Parting_settle.2.1 30 = .ok (.if_icmp .ne (46), 3)) (by decide) c3) ?_
        refine ai (r_iload_n (pc := 33) (k := 3) (by decide +kernel : decode k_P_Parting_settle.2.1 33 = .ok (.iload_n 3, 1)) rfl rfl) ?_
        refine ai (p_aload_n (pc := 34) (k := 0) (by decide +kernel : decode k_P_Parting_settle.2.1 34 = .ok (.aload_n 0, 1)) rfl rfl) ?_
        refine ai (p_getr (pc := 35) (PR_896_41 hL) (by decide +kernel : decode k_P_Parting_settle.2.1 35 = .ok (.getfield 9, 3)) lg_7_9 (PC_41 hL).1) ?_
        refine ai (p_aload_n (pc := 38) (k := 0) (by decide +kernel : decode k_P_Parting_settle.2.1 38 = .ok (.aload_n 0, 1)) rfl rfl) ?_
        refine ai (p_getr (pc := 39) (PR_900_41 hL) (by decide +kernel : decode k_P_Parting_settle.2.1 39 = .ok (.getfield 24, 3)) lg_7_24 (PC_41 hL).1) ?_
        refine ai (r_iload (pc := 42) (k := 6) (by decide +kernel : decode k_P_Parting_settle.2.1 42 = .ok (.iload 6, 2)) rfl) ?_
        obtain ⟨g4, h⟩ := gd_some h
        refine ai (p_iald (pc := 44) (by decide +kernel : decode k_P_Parting_settle.2.1 44 = .ok (.iaload, 1)) (PC_46 hL).1 (PC_46 hL).2 g4) ?_
        obtain ⟨g5, h⟩ := gd_some h
        refine ai (p_iald (pc := 45) (by decide +kernel : decode k_P_Parting_settle.2.1 45 = .ok (.iaload, 1)) (PC_42 hL).1 (PC_42 hL).2 g5) ?_
        refine ai (r_iload_n (pc := 46) (k := 2) (by decide +kernel : decode k_P_Parting_settle.2.1 46 = .ok (.iload_n 2, 1)) rfl rfl) ?_
        refine ai (r_isub (pc := 47) (by decide +kernel : decode k_P_Parting_settle.2.1 47 = .ok (.isub, 1))) ?_
        refine ai (r_mmax (pc := 48) (by decide +kernel : decode k_P_Parting_settle.2.1 48 = .ok (.invokestatic 71, 3)) lm_7_71 lm_mmax_st lm_math lm_mmax_cd ⟨by decide, by decide⟩ (Nat.le_of_ble_eq_true rfl)) ?_
        obtain ⟨v6, hv6, h⟩ := vb_some h
        refine ai (e_istore_n (pc := 51) hv6 (by decide +kernel : decode k_P_Parting_settle.2.1 51 = .ok (.istore_n 3, 1)) rfl (by decide) rfl (ls2 := [(3, .int v6), (0, .ref 41), (1, .int x1), (2, .int x2), (4, .int x4), (5, .int x5), (6, .int x6)]) (i := 3)) ?_
        refine ai (r_iload (pc := 52) (k := 4) (by decide +kernel : decode k_P_Parting_settle.2.1 52 = .ok (.iload 4, 2)) rfl) ?_
        refine ai (p_aload_n (pc := 54) (k := 1) (by decide +kernel : decode k_P_Parting_settle.2.1 54 = .ok (.aload_n 0, 1)) rfl rfl) ?_
        refine ai (p_getr (pc := 55) (PR_896_41 hL) (by decide +kernel : decode k_P_Parting_settle.2.1 55 = .ok (.getfield 9, 3)) lg_7_9 (PC_41 hL).1) ?_
        refine ai (p_aload_n (pc := 58) (k := 1) (by decide +kernel : decode k_P_Parting_settle.2.1 58 = .ok (.aload_n 0, 1)) rfl rfl) ?_
        refine ai (p_getr (pc := 59) (PR_900_41 hL) (by decide +kernel : decode k_P_Parting_settle.2.1 59 = .ok (.getfield 24, 3)) lg_7_24 (PC_41 hL).1) ?_
        refine ai (r_iload (pc := 62) (k := 6) (by decide +kernel : decode k_P_Parting_settle.2.1 62 = .ok (.iload 6, 2)) rfl) ?_
        obtain ⟨g7, h⟩ := gd_some h
        refine ai (p_iald (pc := 64) (by decide +kernel : decode k_P_Parting_settle.2.1 64 = .ok (.iaload, 1)) (PC_46 hL).1 (PC_46 hL).2 g7) ?_
        obtain ⟨g8, h⟩ := gd_some h
        refine ai (p_iald (pc := 65) (by decide +kernel : decode k_P_Parting_settle.2.1 65 = .ok (.iaload, 1)) (PC_42 hL).1 (PC_42 hL).2 g8) ?_
        refine ai (r_iload_n (pc := 66) (k := 3) (by decide +kernel : decode k_P_Parting_settle.2.1 66 = .ok (.iload_n 2, 1)) rfl rfl) ?_
        refine ai (r_iadd (pc := 67) (by decide +kernel : decode k_P_Parting_settle.2.1 67 = .ok (.iadd, 1))) ?_
        refine ai (r_mmin (pc := 68) (by decide +kernel : decode k_P_Parting_settle.2.1 68 = .ok (.invokestatic 93, 3)) lm_7_93 lm_mmin_st lm_math lm_mmin_cd ⟨by decide, by decide⟩ (Nat.le_of_ble_eq_true rfl)) ?_
        obtain ⟨v9, hv9, h⟩ := vb_some h
        refine ai (e_istore (pc := 71) hv9 (by decide +kernel : decode k_P_Parting_settle.2.1 71 = .ok (.istore 4, 2)) (by decide) rfl (ls2 := [(4, .int v9), (3, .int v6), (0, .ref 41), (1, .int x1), (2, .int x2), (5, .int x5), (6, .int x6)]) (i := 4)) ?_
        obtain ⟨v10, hv10, h⟩ := vb_some h
        refine ai (e_iinc (pc := 73) (k := 5) hv10 ic_1 (by decide +kernel : decode k_P_Parting_settle.2.1 73 = .ok (.iinc 5 (1), 3)) rfl (by decide) rfl (ls2 := [(5, .int v10), (4, .int v9), (3, .int v6), (0, .ref 41), (1, .int x1), (2, .int x2), (6, .int x6)]) (i := 5)) ?_
        exact (ai (r_sub [3, 4, 5, 2, 1, 0, 6] rfl) (P_Parting_settle_76_run (fun _ _ _ _ _ _ _ _ _ q1 q3 => ih q1 q3) hL h))
      · refine ai (r_icmp_ne_t (pc := 30) (tgt := 76) (by decide +kernel : decode k_P_Parting_settle.2.1 30 = .ok (.if_icmp .ne (46), 3)) (by decide) c3) ?_
        exact (P_Parting_settle_76_run (fun _ _ _ _ _ _ _ _ _ q1 q3 => ih q1 q3) hL h)
set_option maxRecDepth 100000 in
set_option maxHeartbeats 4000000 in
theorem P_Parting_settle_run {x1 : Int32} {x2 : Int32} {m m' : Mem} {r : Int32} (hL : PL m) (h : P_Parting_settle x1 x2 m = some (r, m')) : Run k_P_Parting_settle 0 [(0, .ref 41), (1, .int x1), (2, .int x2)] [] m (some (.int r)) m' ∧ PL m' := by
  unfold P_Parting_settle at h
  refine ai (r_iconst (pc := 0) (by decide +kernel : decode k_P_Parting_settle.2.1 0 = .ok (.iconst 0, 1)) ic_0) ?_
  refine ai (e_istore_n (pc := 1) rfl (by decide +kernel : decode k_P_Parting_settle.2.1 1 = .ok (.istore_n 3, 1)) rfl (by decide) rfl (ls2 := [(3, .int 0), (0, .ref 41), (1, .int x1), (2, .int x2)]) (i := 3)) ?_
  refine ai (r_sipush (pc := 2) (by decide +kernel : decode k_P_Parting_settle.2.1 2 = .ok (.sipush (9999), 3)) (by decide : _ = (9999 : Int32))) ?_
  refine ai (e_istore (pc := 5) rfl (by decide +kernel : decode k_P_Parting_settle.2.1 5 = .ok (.istore 4, 2)) (by decide) rfl (ls2 := [(4, .int 9999), (3, .int 0), (0, .ref 41), (1, .int x1), (2, .int x2)]) (i := 4)) ?_
  refine ai (r_iconst (pc := 7) (by decide +kernel : decode k_P_Parting_settle.2.1 7 = .ok (.iconst 0, 1)) ic_0) ?_
  refine ai (e_istore (pc := 8) rfl (by decide +kernel : decode k_P_Parting_settle.2.1 8 = .ok (.istore 5, 2)) (by decide) rfl (ls2 := [(5, .int 0), (4, .int 9999), (3, .int 0), (0, .ref 41), (1, .int x1), (2, .int x2)]) (i := 5)) ?_
  refine ai (r_iconst (pc := 10) (by decide +kernel : decode k_P_Parting_settle.2.1 10 = .ok (.iconst 0, 1)) ic_0) ?_
  refine ai (e_istore (pc := 11) rfl (by decide +kernel : decode k_P_Parting_settle.2.1 11 = .ok (.istore 6, 2)) (by decide) rfl (ls2 := [(6, .int 0), (5, .int 0), (4, .int 9999), (3, .int 0), (0, .ref 41), (1, .int x1), (2, .int x2)]) (i := 6)) ?_
  exact (ai (r_sub [4, 5, 6, 3, 2, 1, 0] rfl) (P_Parting_settle_13_run hL h))
set_option maxRecDepth 100000 in
set_option maxHeartbeats 4000000 in
theorem P_Parting_weigh_47_run {k21 : Int32 → Int32 → Int32 → Int32 → Mem → Option (Unit × Mem)} {x2 : Int32} {x3 : Int32} {x4 : Int32} {x5 : Int32} {s0 : Int32} {m m' : Mem} {r : Unit} (hk21 : ∀ (x2 : Int32) (x3 : Int32) (x4 : Int32) (x5 : Int32) (m : Mem) (r : Unit) (m' : Mem), PL m → k21 x2 x3 x4 x5 m = some (r, m') → Run k_P_Parting_weigh 21 [(0, .ref 41), (2, .int x2), (3, .int x3), (4, .int x4), (5, .int x5)] [] m none m' ∧ PL m') (hL : PL m) (h : P_Parting_weigh_47 k21 x2 x3 x4 x5 s0 m = some (r, m')) : Run k_P_Parting_weigh 47 [(0, .ref 41), (2, .int x2), (3, .int x3), (4, .int x4), (5, .int x5)] [.int s0] m none m' ∧ PL m' := by
  unfold P_Parting_weigh_47 at h
  refine ai (e_istore (pc := 47) rfl (by decide +kernel : decode k_P_Parting_weigh.2.1 47 = .ok (.istore 6, 2)) (by decide) rfl (ls2 := [(6, .int s0), (0, .ref 41), (2, .int x2), (3, .int x3), (4, .int x4), (5, .int x5)]) (i := 6)) ?_
  refine ai (r_iload (pc := 49) (k := 0) (by decide +kernel : decode k_P_Parting_weigh.2.1 49 = .ok (.iload 6, 2)) rfl) ?_
  refine ai (r_iconst (pc := 51) (by decide +kernel : decode k_P_Parting_weigh.2.1 51 = .ok (.iconst (-1), 1)) ic_m1) ?_
  rcases ite_some h with ⟨c1, h⟩ | ⟨c1, h⟩
  · refine ai (r_icmp_ne_f (pc := 52) 56 (by decide +kernel : decode k_P_Parting_weigh.2.1 52 = .ok (.if_icmp .ne (4), 3)) (by decide) c1) ?_
    cases h
    exact ⟨r_vret rfl (by decide +kernel : decode k_P_Parting_weigh.2.1 55 = .ok (.return_, 1)), hL⟩
  · refine ai (r_icmp_ne_t (pc := 52) (tgt := 56) (by decide +kernel : decode k_P_Parting_weigh.2.1 52 = .ok (.if_icmp .ne (4), 3)) (by decide) c1) ?_
    refine ai (r_iload (pc := 56) (k := 4) (by decide +kernel : decode k_P_Parting_weigh.2.1 56 = .ok (.iload 4, 2)) rfl) ?_
    refine ai (r_iload (pc := 58) (k := 0) (by decide +kernel : decode k_P_Parting_weigh.2.1 58 = .ok (.iload 6, 2)) rfl) ?_
    refine ai (r_iadd (pc := 60) (by decide +kernel : decode k_P_Parting_weigh.2.1 60 = .ok (.iadd, 1))) ?_
    obtain ⟨v2, hv2, h⟩ := vb_some h
    refine ai (e_istore (pc := 61) hv2 (by decide +kernel : decode k_P_Parting_weigh.2.1 61 = .ok (.istore 4, 2)) (by decide) rfl (ls2 := [(4, .int v2), (6, .int s0), (0, .ref 41), (2, .int x2), (3, .int x3), (5, .int x5)]) (i := 4)) ?_
    obtain ⟨v3, hv3, h⟩ := vb_some h
    refine ai (e_iinc (pc := 63) (k := 5) hv3 ic_1 (by decide +kernel : decode k_P_Parting_weigh.2.1 63 = .ok (.iinc 5 (1), 3)) rfl (by decide) rfl (ls2 := [(5, .int v3), (4, .int v2), (6, .int s0), (0, .ref 41), (2, .int x2), (3, .int x3)]) (i := 5)) ?_
    refine ai (r_goto (pc := 66) (tgt := 21) (by decide +kernel : decode k_P_Parting_weigh.2.1 66 = .ok (.goto (-45), 3)) (by decide)) ?_
    exact (ai (r_sub [3, 4, 5, 1, 0] rfl) (hk21 x2 x3 v2 v3 m _ _ hL h))
set_option maxRecDepth 100000 in
set_option maxHeartbeats 4000000 in
theorem P_Parting_weigh_103_run {x3 : Int32} {x4 : Int32} {m m' : Mem} {r : Unit} (hL : PL m) (h : P_Parting_weigh_103 x3 x4 m = some (r, m')) : Run k_P_Parting_weigh 103 [(0, .ref 41), (3, .int x3), (4, .int x4)] [] m none m' ∧ PL m' := by
  unfold P_Parting_weigh_103 at h
  refine ai (p_aload_n (pc := 103) (k := 0) (by decide +kernel : decode k_P_Parting_weigh.2.1 103 = .ok (.aload_n 0, 1)) rfl rfl) ?_
  refine ai (r_iload (pc := 104) (k := 2) (by decide +kernel : decode k_P_Parting_weigh.2.1 104 = .ok (.iload 4, 2)) rfl) ?_
  have c1 := (PC_41 hL).1
  obtain ⟨m2, hm2, h⟩ := vb_some h
  have hL : PL m2 := by rw [hm2]; exact hL
  refine ai (p_putI (pc := 106) hm2 (by decide +kernel : decode k_P_Parting_weigh.2.1 106 = .ok (.putfield 49, 3)) lp_7_49 c1) ?_
  refine ai (p_aload_n (pc := 109) (k := 0) (by decide +kernel : decode k_P_Parting_weigh.2.1 109 = .ok (.aload_n 0, 1)) rfl rfl) ?_
  refine ai (r_iload_n (pc := 110) (k := 1) (by decide +kernel : decode k_P_Parting_weigh.2.1 110 = .ok (.iload_n 3, 1)) rfl rfl) ?_
  have c3 := (PC_41 hL).1
  obtain ⟨m4, hm4, h⟩ := vb_some h
  have hL : PL m4 := by rw [hm4]; exact hL
  refine ai (p_putI (pc := 111) hm4 (by decide +kernel : decode k_P_Parting_weigh.2.1 111 = .ok (.putfield 84, 3)) lp_7_84 c3) ?_
  refine ai (p_aload_n (pc := 114) (k := 0) (by decide +kernel : decode k_P_Parting_weigh.2.1 114 = .ok (.aload_n 0, 1)) rfl rfl) ?_
  refine ai (p_getr (pc := 115) (PR_902_41 hL) (by decide +kernel : decode k_P_Parting_weigh.2.1 115 = .ok (.getfield 27, 3)) lg_7_27 (PC_41 hL).1) ?_
  refine ai (r_iconst (pc := 118) (by decide +kernel : decode k_P_Parting_weigh.2.1 118 = .ok (.iconst 0, 1)) ic_0) ?_
  refine ai (p_aload_n (pc := 119) (k := 0) (by decide +kernel : decode k_P_Parting_weigh.2.1 119 = .ok (.aload_n 0, 1)) rfl rfl) ?_
  refine ai (p_getr (pc := 120) (PR_904_41 hL) (by decide +kernel : decode k_P_Parting_weigh.2.1 120 = .ok (.getfield 33, 3)) lg_7_33 (PC_41 hL).1) ?_
  refine ai (r_iconst (pc := 123) (by decide +kernel : decode k_P_Parting_weigh.2.1 123 = .ok (.iconst 0, 1)) ic_0) ?_
  refine ai (p_aload_n (pc := 124) (k := 0) (by decide +kernel : decode k_P_Parting_weigh.2.1 124 = .ok (.aload_n 0, 1)) rfl rfl) ?_
  refine ai (r_getI (pc := 125) (by decide +kernel : decode k_P_Parting_weigh.2.1 125 = .ok (.getfield 53, 3)) lg_7_53 (by decide) (PC_41 hL).1) ?_
  have c5 := (PC_47 hL).1
  have c6 := (PC_49 hL).1
  obtain ⟨g7, h⟩ := gd_some h
  obtain ⟨m8, hm8, h⟩ := vb_some h
  have hL : PL m8 := by rw [hm8]; exact hL
  refine ai (r_acopy (pc := 128) hm8 (by decide +kernel : decode k_P_Parting_weigh.2.1 128 = .ok (.invokestatic 87, 3)) ly_7_87 ly_nat ly_st ly_ini ⟨by decide, by decide⟩ (Nat.le_of_ble_eq_true rfl) c5 c6 g7) ?_
  refine ai (p_aload_n (pc := 131) (k := 0) (by decide +kernel : decode k_P_Parting_weigh.2.1 131 = .ok (.aload_n 0, 1)) rfl rfl) ?_
  refine ai (p_getr (pc := 132) (PR_903_41 hL) (by decide +kernel : decode k_P_Parting_weigh.2.1 132 = .ok (.getfield 30, 3)) lg_7_30 (PC_41 hL).1) ?_
  refine ai (r_iconst (pc := 135) (by decide +kernel : decode k_P_Parting_weigh.2.1 135 = .ok (.iconst 0, 1)) ic_0) ?_
  refine ai (p_aload_n (pc := 136) (k := 0) (by decide +kernel : decode k_P_Parting_weigh.2.1 136 = .ok (.aload_n 0, 1)) rfl rfl) ?_
  refine ai (p_getr (pc := 137) (PR_905_41 hL) (by decide +kernel : decode k_P_Parting_weigh.2.1 137 = .ok (.getfield 36, 3)) lg_7_36 (PC_41 hL).1) ?_
  refine ai (r_iconst (pc := 140) (by decide +kernel : decode k_P_Parting_weigh.2.1 140 = .ok (.iconst 0, 1)) ic_0) ?_
  refine ai (p_aload_n (pc := 141) (k := 0) (by decide +kernel : decode k_P_Parting_weigh.2.1 141 = .ok (.aload_n 0, 1)) rfl rfl) ?_
  refine ai (r_getI (pc := 142) (by decide +kernel : decode k_P_Parting_weigh.2.1 142 = .ok (.getfield 53, 3)) lg_7_53 (by decide) (PC_41 hL).1) ?_
  have c9 := (PC_48 hL).1
  have c10 := (PC_50 hL).1
  obtain ⟨g11, h⟩ := gd_some h
  obtain ⟨m12, hm12, h⟩ := vb_some h
  have hL : PL m12 := by rw [hm12]; exact hL
  refine ai (r_acopy (pc := 145) hm12 (by decide +kernel : decode k_P_Parting_weigh.2.1 145 = .ok (.invokestatic 87, 3)) ly_7_87 ly_nat ly_st ly_ini ⟨by decide, by decide⟩ (Nat.le_of_ble_eq_true rfl) c9 c10 g11) ?_
  cases h
  exact ⟨r_vret rfl (by decide +kernel : decode k_P_Parting_weigh.2.1 148 = .ok (.return_, 1)), hL⟩
set_option maxRecDepth 100000 in
set_option maxHeartbeats 4000000 in
theorem P_Parting_weigh_69_run {x3 : Int32} {x4 : Int32} {m m' : Mem} {r : Unit} (hL : PL m) (h : P_Parting_weigh_69 x3 x4 m = some (r, m')) : Run k_P_Parting_weigh 69 [(0, .ref 41), (3, .int x3), (4, .int x4)] [] m none m' ∧ PL m' := by
  unfold P_Parting_weigh_69 at h
  refine ai (p_aload_n (pc := 69) (k := 0) (by decide +kernel : decode k_P_Parting_weigh.2.1 69 = .ok (.aload_n 0, 1)) rfl rfl) ?_
  refine ai (r_getI (pc := 70) (by decide +kernel : decode k_P_Parting_weigh.2.1 70 = .ok (.getfield 49, 3)) lg_7_49 (by decide) (PC_41 hL).1) ?_
  refine ai (r_iconst (pc := 73) (by decide +kernel : decode k_P_Parting_weigh.2.1 73 = .ok (.iconst (-1), 1)) ic_m1) ?_
  rcases ite_some h with ⟨c1, h⟩ | ⟨c1, h⟩
  · refine ai (r_icmp_eq_t (pc := 74) (tgt := 103) (by decide +kernel : decode k_P_Parting_weigh.2.1 74 = .ok (.if_icmp .eq (29), 3)) (by decide) c1) ?_
    exact (P_Parting_weigh_103_run hL h)
  · refine ai (r_icmp_eq_f (pc := 74) 103 (by decide +kernel : decode k_P_Parting_weigh.2.1 74 = .ok (.if_icmp .eq (29), 3)) (by decide) c1) ?_
    refine ai (r_iload (pc := 77) (k := 2) (by decide +kernel : decode k_P_Parting_weigh.2.1 77 = .ok (.iload 4, 2)) rfl) ?_
    refine ai (p_aload_n (pc := 79) (k := 0) (by decide +kernel : decode k_P_Parting_weigh.2.1 79 = .ok (.aload_n 0, 1)) rfl rfl) ?_
    refine ai (r_getI (pc := 80) (by decide +kernel : decode k_P_Parting_weigh.2.1 80 = .ok (.getfield 49, 3)) lg_7_49 (by decide) (PC_41 hL).1) ?_
    rcases ite_some h with ⟨c2, h⟩ | ⟨c2, h⟩
    · refine ai (r_icmp_lt_t (pc := 83) (tgt := 103) (by decide +kernel : decode k_P_Parting_weigh.2.1 83 = .ok (.if_icmp .lt (20), 3)) (by decide) c2) ?_
      exact (P_Parting_weigh_103_run hL h)
    · refine ai (r_icmp_lt_f (pc := 83) 103 (by decide +kernel : decode k_P_Parting_weigh.2.1 83 = .ok (.if_icmp .lt (20), 3)) (by decide) c2) ?_
      refine ai (r_iload (pc := 86) (k := 2) (by decide +kernel : decode k_P_Parting_weigh.2.1 86 = .ok (.iload 4, 2)) rfl) ?_
      refine ai (p_aload_n (pc := 88) (k := 0) (by decide +kernel : decode k_P_Parting_weigh.2.1 88 = .ok (.aload_n 0, 1)) rfl rfl) ?_
      refine ai (r_getI (pc := 89) (by decide +kernel : decode k_P_Parting_weigh.2.1 89 = .ok (.getfield 49, 3)) lg_7_49 (by decide) (PC_41 hL).1) ?_
      rcases ite_some h with ⟨c3, h⟩ | ⟨c3, h⟩
      · refine ai (r_icmp_ne_f (pc := 92) 148 (by decide +kernel : decode k_P_Parting_weigh.2.1 92 = .ok (.if_icmp .ne (56), 3)) (by decide) c3) ?_
        refine ai (r_iload_n (pc := 95) (k := 1) (by decide +kernel : decode k_P_Parting_weigh.2.1 95 = .ok (.iload_n 3, 1)) rfl rfl) ?_
        refine ai (p_aload_n (pc := 96) (k := 0) (by decide +kernel : decode k_P_Parting_weigh.2.1 96 = .ok (.aload_n 0, 1)) rfl rfl) ?_
        refine ai (r_getI (pc := 97) (by decide +kernel : decode k_P_Parting_weigh.2.1 97 = .ok (.getfield 84, 3)) lg_7_84 (by decide) (PC_41 hL).1) ?_
        rcases ite_some h with ⟨c4, h⟩ | ⟨c4, h⟩
        · refine ai (r_icmp_ge_t (pc := 100) (tgt := 148) (by decide +kernel : decode k_P_Parting_weigh.2.1 100 = .ok (.if_icmp .ge (48), 3)) (by decide) c4) ?_
          cases h
          exact ⟨r_vret rfl (by decide +kernel : decode k_P_Parting_weigh.2.1 148 = .ok (.return_, 1)), hL⟩
        · refine ai (r_icmp_ge_f (pc := 100) 148 (by decide +kernel : decode k_P_Parting_weigh.2.1 100 = .ok (.if_icmp .ge (48), 3)) (by decide) c4) ?_
          exact (P_Parting_weigh_103_run hL h)
      · refine ai (r_icmp_ne_t (pc := 92) (tgt := 148) (by decide +kernel : decode k_P_Parting_weigh.2.1 92 = .ok (.if_icmp .ne (56), 3)) (by decide) c3) ?_
        cases h
        exact ⟨r_vret rfl (by decide +kernel : decode k_P_Parting_weigh.2.1 148 = .ok (.return_, 1)), hL⟩
set_option maxRecDepth 100000 in
set_option maxHeartbeats 4000000 in
theorem P_Parting_weigh_21_run {n : Nat} {x2 : Int32} {x3 : Int32} {x4 : Int32} {x5 : Int32} {m m' : Mem} {r : Unit} (hL : PL m) (h : P_Parting_weigh_21 n x2 x3 x4 x5 m = some (r, m')) : Run k_P_Parting_weigh 21 [(0, .ref 41), (2, .int x2), (3, .int x3), (4, .int x4), (5, .int x5)] [] m none m' ∧ PL m' := by
  induction n generalizing x2 x3 x4 x5 m r m' with
  | zero => exact absurd h (by simp [P_Parting_weigh_21])
  | succ n ih =>
    rw [P_Parting_weigh_21.eq_2] at h
    refine ai (r_iload (pc := 21) (k := 4) (by decide +kernel : decode k_P_Parting_weigh.2.1 21 = .ok (.iload 5, 2)) rfl) ?_
    refine ai (r_iload_n (pc := 23) (k := 2) (by decide +kernel : decode k_P_Parting_weigh.2.1 23 = .ok (.iload_n 3, 1)) rfl rfl) ?_
    rcases ite_some h with ⟨c1, h⟩ | ⟨c1, h⟩
    · refine ai (r_icmp_ge_t (pc := 24) (tgt := 69) (by decide +kernel : decode k_P_Parting_weigh.2.1 24 = .ok (.if_icmp .ge (45), 3)) (by decide) c1) ?_
      exact (ai (r_sub [0, 2, 3] rfl) (P_Parting_weigh_69_run hL h))
    · refine ai (r_icmp_ge_f (pc := 24) 69 (by decide +kernel : decode k_P_Parting_weigh.2.1 24 = .ok (.if_icmp .ge (45), 3)) (by decide) c1) ?_
      refine ai (p_aload_n (pc := 27) (k := 0) (by decide +kernel : decode k_P_Parting_weigh.2.1 27 = .ok (.aload_n 0, 1)) rfl rfl) ?_
      refine ai (r_iload (pc := 28) (k := 4) (by decide +kernel : decode k_P_Parting_weigh.2.1 28 = .ok (.iload 5, 2)) rfl) ?_
      obtain ⟨r2, m3, hr2, h⟩ := bn_some h
      have q4 := P_Parting_isTorn_run hL hr2
      have c5 := (PC_41 hL).1
      have hL := q4.2
      refine ai (q_callV (pc := 30) (As := [.int x5]) (st := []) (st2 := [.int r2]) (b := 41) rfl rfl (by decide +kernel : decode k_P_Parting_weigh.2.1 30 = .ok (.invokevirtual 77, 3)) lc_7_77 mo_P_Parting_isTorn ⟨Nat.le_of_ble_eq_true rfl, Nat.le_of_ble_eq_true rfl⟩ (Nat.le_of_ble_eq_true rfl) (Nat.le_of_ble_eq_true rfl) c5 q4.1) ?_
      rcases ite_some h with ⟨c6, h⟩ | ⟨c6, h⟩
      · refine ai (r_if_eq_t (pc := 33) (tgt := 40) (by decide +kernel : decode k_P_Parting_weigh.2.1 33 = .ok (.ifCond .eq (7), 3)) (by decide) c6) ?_
        refine ai (p_aload_n (pc := 40) (k := 0) (by decide +kernel : decode k_P_Parting_weigh.2.1 40 = .ok (.aload_n 0, 1)) rfl rfl) ?_
        refine ai (r_iload (pc := 41) (k := 4) (by decide +kernel : decode k_P_Parting_weigh.2.1 41 = .ok (.iload 5, 2)) rfl) ?_
        refine ai (r_iload_n (pc := 43) (k := 1) (by decide +kernel : decode k_P_Parting_weigh.2.1 43 = .ok (.iload_n 2, 1)) rfl rfl) ?_
        obtain ⟨r7, m8, hr7, h⟩ := bn_some h
        have q9 := P_Parting_settle_run hL hr7
        have c10 := (PC_41 hL).1
        have hL := q9.2
        refine ai (q_callV (pc := 44) (As := [.int x5, .int x2]) (st := []) (st2 := [.int r7]) (b := 41) rfl rfl (by decide +kernel : decode k_P_Parting_weigh.2.1 44 = .ok (.invokevirtual 81, 3)) lc_7_81 mo_P_Parting_settle ⟨Nat.le_of_ble_eq_true rfl, Nat.le_of_ble_eq_true rfl⟩ (Nat.le_of_ble_eq_true rfl) (Nat.le_of_ble_eq_true rfl) c10 q9.1) ?_
        exact (P_Parting_weigh_47_run (fun _ _ _ _ _ _ _ q1 q3 => ih q1 q3) hL h)
      · refine ai (r_if_eq_f (pc := 33) 40 (by decide +kernel : decode k_P_Parting_weigh.2.1 33 = .ok (.ifCond .eq (7), 3)) (by decide) c6) ?_
        refine ai (r_iconst (pc := 36) (by decide +kernel : decode k_P_Parting_weigh.2.1 36 = .ok (.iconst (-1), 1)) ic_m1) ?_
        refine ai (r_goto (pc := 37) (tgt := 47) (by decide +kernel : decode k_P_Parting_weigh.2.1 37 = .ok (.goto (10), 3)) (by decide)) ?_
        exact (P_Parting_weigh_47_run (fun _ _ _ _ _ _ _ q1 q3 => ih q1 q3) hL h)
set_option maxRecDepth 100000 in
set_option maxHeartbeats 4000000 in
theorem P_Parting_weigh_run {x1 : Int32} {x2 : Int32} {m m' : Mem} {r : Unit} (hL : PL m) (h : P_Parting_weigh x1 x2 m = some (r, m')) : Run k_P_Parting_weigh 0 [(0, .ref 41), (1, .int x1), (2, .int x2)] [] m none m' ∧ PL m' := by
  unfold P_Parting_weigh at h
  refine ai (p_aload_n (pc := 0) (k := 0) (by decide +kernel : decode k_P_Parting_weigh.2.1 0 = .ok (.aload_n 0, 1)) rfl rfl) ?_
  refine ai (p_aload_n (pc := 1) (k := 0) (by decide +kernel : decode k_P_Parting_weigh.2.1 1 = .ok (.aload_n 0, 1)) rfl rfl) ?_
  refine ai (r_getI (pc := 2) (by decide +kernel : decode k_P_Parting_weigh.2.1 2 = .ok (.getfield 53, 3)) lg_7_53 (by decide) (PC_41 hL).1) ?_
  obtain ⟨r1, m2, hr1, h⟩ := bn_some h
  have q3 := P_Parting_groupsAmong_run hL hr1
  have c4 := (PC_41 hL).1
  have hL := q3.2
  refine ai (q_callV (pc := 5) (As := [.int (mI m 901 41)]) (st := []) (st2 := [.int r1]) (b := 41) rfl rfl (by decide +kernel : decode k_P_Parting_weigh.2.1 5 = .ok (.invokevirtual 67, 3)) lc_7_67 mo_P_Parting_groupsAmong ⟨Nat.le_of_ble_eq_true rfl, Nat.le_of_ble_eq_true rfl⟩ (Nat.le_of_ble_eq_true rfl) (Nat.le_of_ble_eq_true rfl) c4 q3.1) ?_
  refine ai (e_istore_n (pc := 8) rfl (by decide +kernel : decode k_P_Parting_weigh.2.1 8 = .ok (.istore_n 3, 1)) rfl (by decide) rfl (ls2 := [(3, .int r1), (0, .ref 41), (1, .int x1), (2, .int x2)]) (i := 3)) ?_
  refine ai (r_iload_n (pc := 9) (k := 0) (by decide +kernel : decode k_P_Parting_weigh.2.1 9 = .ok (.iload_n 3, 1)) rfl rfl) ?_
  refine ai (r_iload_n (pc := 10) (k := 2) (by decide +kernel : decode k_P_Parting_weigh.2.1 10 = .ok (.iload_n 1, 1)) rfl rfl) ?_
  rcases ite_some h with ⟨c5, h⟩ | ⟨c5, h⟩
  · refine ai (r_icmp_le_t (pc := 11) (tgt := 15) (by decide +kernel : decode k_P_Parting_weigh.2.1 11 = .ok (.if_icmp .le (4), 3)) (by decide) c5) ?_
    refine ai (r_iconst (pc := 15) (by decide +kernel : decode k_P_Parting_weigh.2.1 15 = .ok (.iconst 0, 1)) ic_0) ?_
    refine ai (e_istore (pc := 16) rfl (by decide +kernel : decode k_P_Parting_weigh.2.1 16 = .ok (.istore 4, 2)) (by decide) rfl (ls2 := [(4, .int 0), (3, .int r1), (0, .ref 41), (1, .int x1), (2, .int x2)]) (i := 4)) ?_
    refine ai (r_iconst (pc := 18) (by decide +kernel : decode k_P_Parting_weigh.2.1 18 = .ok (.iconst 0, 1)) ic_0) ?_
    refine ai (e_istore (pc := 19) rfl (by decide +kernel : decode k_P_Parting_weigh.2.1 19 = .ok (.istore 5, 2)) (by decide) rfl (ls2 := [(5, .int 0), (4, .int 0), (3, .int r1), (0, .ref 41), (1, .int x1), (2, .int x2)]) (i := 5)) ?_
    exact (ai (r_sub [3, 5, 2, 1, 0] rfl) (P_Parting_weigh_21_run hL h))
  · refine ai (r_icmp_le_f (pc := 11) 15 (by decide +kernel : decode k_P_Parting_weigh.2.1 11 = .ok (.if_icmp .le (4), 3)) (by decide) c5) ?_
    cases h
    exact ⟨r_vret rfl (by decide +kernel : decode k_P_Parting_weigh.2.1 14 = .ok (.return_, 1)), hL⟩
set_option maxRecDepth 100000 in
set_option maxHeartbeats 4000000 in
theorem P_Parting_nextWay_39_run {n : Nat} {x2 : Int32} {m m' : Mem} {r : Int32} (hL : PL m) (h : P_Parting_nextWay_39 n x2 m = some (r, m')) : Run k_P_Parting_nextWay 39 [(0, .ref 41), (2, .int x2)] [] m (some (.int r)) m' ∧ PL m' := by
  induction n generalizing x2 m r m' with
  | zero => exact absurd h (by simp [P_Parting_nextWay_39])
  | succ n ih =>
    rw [P_Parting_nextWay_39.eq_2] at h
    refine ai (r_iload_n (pc := 39) (k := 1) (by decide +kernel : decode k_P_Parting_nextWay.2.1 39 = .ok (.iload_n 2, 1)) rfl rfl) ?_
    refine ai (p_aload_n (pc := 40) (k := 0) (by decide +kernel : decode k_P_Parting_nextWay.2.1 40 = .ok (.aload_n 0, 1)) rfl rfl) ?_
    refine ai (r_getI (pc := 41) (by decide +kernel : decode k_P_Parting_nextWay.2.1 41 = .ok (.getfield 53, 3)) lg_7_53 (by decide) (PC_41 hL).1) ?_
    rcases ite_some h with ⟨c1, h⟩ | ⟨c1, h⟩
    · refine ai (r_icmp_ge_t (pc := 44) (tgt := 60) (by decide +kernel : decode k_P_Parting_nextWay.2.1 44 = .ok (.if_icmp .ge (16), 3)) (by decide) c1) ?_
      refine ai (r_iconst (pc := 60) (by decide +kernel : decode k_P_Parting_nextWay.2.1 60 = .ok (.iconst 1, 1)) ic_1) ?_
      cases h
      exact ⟨r_zret (by decide) rfl (by decide +kernel : decode k_P_Parting_nextWay.2.1 61 = .ok (.ireturn, 1)), hL⟩
    · refine ai (r_icmp_ge_f (pc := 44) 60 (by decide +kernel : decode k_P_Parting_nextWay.2.1 44 = .ok (.if_icmp .ge (16), 3)) (by decide) c1) ?_
      refine ai (p_aload_n (pc := 47) (k := 0) (by decide +kernel : decode k_P_Parting_nextWay.2.1 47 = .ok (.aload_n 0, 1)) rfl rfl) ?_
      refine ai (p_getr (pc := 48) (PR_902_41 hL) (by decide +kernel : decode k_P_Parting_nextWay.2.1 48 = .ok (.getfield 27, 3)) lg_7_27 (PC_41 hL).1) ?_
      refine ai (r_iload_n (pc := 51) (k := 1) (by decide +kernel : decode k_P_Parting_nextWay.2.1 51 = .ok (.iload_n 2, 1)) rfl rfl) ?_
      refine ai (r_iconst (pc := 52) (by decide +kernel : decode k_P_Parting_nextWay.2.1 52 = .ok (.iconst 0, 1)) ic_0) ?_
      obtain ⟨g2, h⟩ := gd_some h
      have c3 := (PC_47 hL).1
      have c4 := (PC_47 hL).2
      obtain ⟨m5, hm5, h⟩ := vb_some h
      have hL : PL m5 := by rw [hm5]; exact hL
      refine ai (p_iast (pc := 53) hm5 (by decide +kernel : decode k_P_Parting_nextWay.2.1 53 = .ok (.iastore, 1)) c3 c4 g2) ?_
      obtain ⟨v6, hv6, h⟩ := vb_some h
      refine ai (e_iinc (pc := 54) (k := 1) hv6 ic_1 (by decide +kernel : decode k_P_Parting_nextWay.2.1 54 = .ok (.iinc 2 (1), 3)) rfl (by decide) rfl (ls2 := [(2, .int v6), (0, .ref 41)]) (i := 2)) ?_
      refine ai (r_goto (pc := 57) (tgt := 39) (by decide +kernel : decode k_P_Parting_nextWay.2.1 57 = .ok (.goto (-18), 3)) (by decide)) ?_
      exact (ai (r_sub [1, 0] rfl) (ih hL h))
set_option maxRecDepth 100000 in
set_option maxHeartbeats 4000000 in
theorem P_Parting_nextWay_25_run {x1 : Int32} {m m' : Mem} {r : Int32} (hL : PL m) (h : P_Parting_nextWay_25 x1 m = some (r, m')) : Run k_P_Parting_nextWay 25 [(0, .ref 41), (1, .int x1)] [] m (some (.int r)) m' ∧ PL m' := by
  unfold P_Parting_nextWay_25 at h
  refine ai (p_aload_n (pc := 25) (k := 0) (by decide +kernel : decode k_P_Parting_nextWay.2.1 25 = .ok (.aload_n 0, 1)) rfl rfl) ?_
  refine ai (p_getr (pc := 26) (PR_902_41 hL) (by decide +kernel : decode k_P_Parting_nextWay.2.1 26 = .ok (.getfield 27, 3)) lg_7_27 (PC_41 hL).1) ?_
  refine ai (r_iload_n (pc := 29) (k := 1) (by decide +kernel : decode k_P_Parting_nextWay.2.1 29 = .ok (.iload_n 1, 1)) rfl rfl) ?_
  refine ai (r_dup2 (pc := 30) (by decide +kernel : decode k_P_Parting_nextWay.2.1 30 = .ok (.dup2, 1)) rfl rfl) ?_
  obtain ⟨g1, h⟩ := gd_some h
  refine ai (p_iald (pc := 31) (by decide +kernel : decode k_P_Parting_nextWay.2.1 31 = .ok (.iaload, 1)) (PC_47 hL).1 (PC_47 hL).2 g1) ?_
  refine ai (r_iconst (pc := 32) (by decide +kernel : decode k_P_Parting_nextWay.2.1 32 = .ok (.iconst 1, 1)) ic_1) ?_
  refine ai (r_iadd (pc := 33) (by decide +kernel : decode k_P_Parting_nextWay.2.1 33 = .ok (.iadd, 1))) ?_
  obtain ⟨g2, h⟩ := gd_some h
  have c3 := (PC_47 hL).1
  have c4 := (PC_47 hL).2
  obtain ⟨m5, hm5, h⟩ := vb_some h
  have hL : PL m5 := by rw [hm5]; exact hL
  refine ai (p_iast (pc := 34) hm5 (by decide +kernel : decode k_P_Parting_nextWay.2.1 34 = .ok (.iastore, 1)) c3 c4 g2) ?_
  refine ai (r_iload_n (pc := 35) (k := 1) (by decide +kernel : decode k_P_Parting_nextWay.2.1 35 = .ok (.iload_n 1, 1)) rfl rfl) ?_
  refine ai (r_iconst (pc := 36) (by decide +kernel : decode k_P_Parting_nextWay.2.1 36 = .ok (.iconst 1, 1)) ic_1) ?_
  refine ai (r_iadd (pc := 37) (by decide +kernel : decode k_P_Parting_nextWay.2.1 37 = .ok (.iadd, 1))) ?_
  obtain ⟨v6, hv6, h⟩ := vb_some h
  refine ai (e_istore_n (pc := 38) hv6 (by decide +kernel : decode k_P_Parting_nextWay.2.1 38 = .ok (.istore_n 2, 1)) rfl (by decide) rfl (ls2 := [(2, .int v6), (0, .ref 41), (1, .int x1)]) (i := 2)) ?_
  exact (ai (r_sub [1, 0] rfl) (P_Parting_nextWay_39_run hL h))
set_option maxRecDepth 100000 in
set_option maxHeartbeats 4000000 in
theorem P_Parting_nextWay_7_run {n : Nat} {x1 : Int32} {m m' : Mem} {r : Int32} (hL : PL m) (h : P_Parting_nextWay_7 n x1 m = some (r, m')) : Run k_P_Parting_nextWay 7 [(0, .ref 41), (1, .int x1)] [] m (some (.int r)) m' ∧ PL m' := by
  induction n generalizing x1 m r m' with
  | zero => exact absurd h (by simp [P_Parting_nextWay_7])
  | succ n ih =>
    rw [P_Parting_nextWay_7.eq_2] at h
    refine ai (r_iload_n (pc := 7) (k := 1) (by decide +kernel : decode k_P_Parting_nextWay.2.1 7 = .ok (.iload_n 1, 1)) rfl rfl) ?_
    rcases ite_some h with ⟨c1, h⟩ | ⟨c1, h⟩
    · refine ai (r_if_le_t (pc := 8) (tgt := 68) (by decide +kernel : decode k_P_Parting_nextWay.2.1 8 = .ok (.ifCond .le (60), 3)) (by decide) c1) ?_
      refine ai (r_iconst (pc := 68) (by decide +kernel : decode k_P_Parting_nextWay.2.1 68 = .ok (.iconst 0, 1)) ic_0) ?_
      cases h
      exact ⟨r_zret (by decide) rfl (by decide +kernel : decode k_P_Parting_nextWay.2.1 69 = .ok (.ireturn, 1)), hL⟩
    · refine ai (r_if_le_f (pc := 8) 68 (by decide +kernel : decode k_P_Parting_nextWay.2.1 8 = .ok (.ifCond .le (60), 3)) (by decide) c1) ?_
      refine ai (p_aload_n (pc := 11) (k := 0) (by decide +kernel : decode k_P_Parting_nextWay.2.1 11 = .ok (.aload_n 0, 1)) rfl rfl) ?_
      refine ai (p_getr (pc := 12) (PR_902_41 hL) (by decide +kernel : decode k_P_Parting_nextWay.2.1 12 = .ok (.getfield 27, 3)) lg_7_27 (PC_41 hL).1) ?_
      refine ai (r_iload_n (pc := 15) (k := 1) (by decide +kernel : decode k_P_Parting_nextWay.2.1 15 = .ok (.iload_n 1, 1)) rfl rfl) ?_
      obtain ⟨g2, h⟩ := gd_some h
      refine ai (p_iald (pc := 16) (by decide +kernel : decode k_P_Parting_nextWay.2.1 16 = .ok (.iaload, 1)) (PC_47 hL).1 (PC_47 hL).2 g2) ?_
      refine ai (p_aload_n (pc := 17) (k := 0) (by decide +kernel : decode k_P_Parting_nextWay.2.1 17 = .ok (.aload_n 0, 1)) rfl rfl) ?_
      refine ai (r_iload_n (pc := 18) (k := 1) (by decide +kernel : decode k_P_Parting_nextWay.2.1 18 = .ok (.iload_n 1, 1)) rfl rfl) ?_
      obtain ⟨r3, m4, hr3, h⟩ := bn_some h
      have q5 := P_Parting_groupsAmong_run hL hr3
      have c6 := (PC_41 hL).1
      have hL := q5.2
      refine ai (q_callV (pc := 19) (As := [.int x1]) (st := [.int (aI m 47 (ix x1))]) (st2 := [.int r3, .int (aI m 47 (ix x1))]) (b := 41) rfl rfl (by decide +kernel : decode k_P_Parting_nextWay.2.1 19 = .ok (.invokevirtual 67, 3)) lc_7_67 mo_P_Parting_groupsAmong ⟨Nat.le_of_ble_eq_true rfl, Nat.le_of_ble_eq_true rfl⟩ (Nat.le_of_ble_eq_true rfl) (Nat.le_of_ble_eq_true rfl) c6 q5.1) ?_
      rcases ite_some h with ⟨c7, h⟩ | ⟨c7, h⟩
      · refine ai (r_icmp_ge_t (pc := 22) (tgt := 62) (by decide +kernel : decode k_P_Parting_nextWay.2.1 22 = .ok (.if_icmp .ge (40), 3)) (by decide) c7) ?_
        obtain ⟨v8, hv8, h⟩ := vb_some h
        refine ai (e_iinc (pc := 62) (k := 1) hv8 ic_m1 (by decide +kernel : decode k_P_Parting_nextWay.2.1 62 = .ok (.iinc 1 (-1), 3)) rfl (by decide) rfl (ls2 := [(1, .int v8), (0, .ref 41)]) (i := 1)) ?_
        refine ai (r_goto (pc := 65) (tgt := 7) (by decide +kernel : decode k_P_Parting_nextWay.2.1 65 = .ok (.goto (-58), 3)) (by decide)) ?_
        exact (ai (r_sub [1, 0] rfl) (ih hL h))
      · refine ai (r_icmp_ge_f (pc := 22) 62 (by decide +kernel : decode k_P_Parting_nextWay.2.1 22 = .ok (.if_icmp .ge (40), 3)) (by decide) c7) ?_
        exact (P_Parting_nextWay_25_run hL h)
set_option maxRecDepth 100000 in
set_option maxHeartbeats 4000000 in
theorem P_Parting_nextWay_run {m m' : Mem} {r : Int32} (hL : PL m) (h : P_Parting_nextWay m = some (r, m')) : Run k_P_Parting_nextWay 0 [(0, .ref 41)] [] m (some (.int r)) m' ∧ PL m' := by
  unfold P_Parting_nextWay at h
  refine ai (p_aload_n (pc := 0) (k := 0) (by decide +kernel : decode k_P_Parting_nextWay.2.1 0 = .ok (.aload_n 0, 1)) rfl rfl) ?_
  refine ai (r_getI (pc := 1) (by decide +kernel : decode k_P_Parting_nextWay.2.1 1 = .ok (.getfield 53, 3)) lg_7_53 (by decide) (PC_41 hL).1) ?_
  refine ai (r_iconst (pc := 4) (by decide +kernel : decode k_P_Parting_nextWay.2.1 4 = .ok (.iconst 1, 1)) ic_1) ?_
  refine ai (r_isub (pc := 5) (by decide +kernel : decode k_P_Parting_nextWay.2.1 5 = .ok (.isub, 1))) ?_
  obtain ⟨v1, hv1, h⟩ := vb_some h
  refine ai (e_istore_n (pc := 6) hv1 (by decide +kernel : decode k_P_Parting_nextWay.2.1 6 = .ok (.istore_n 1, 1)) rfl (by decide) rfl (ls2 := [(1, .int v1), (0, .ref 41)]) (i := 1)) ?_
  exact (ai (r_sub [1, 0] rfl) (P_Parting_nextWay_7_run hL h))
set_option maxRecDepth 100000 in
set_option maxHeartbeats 4000000 in
theorem P_Parting_remember_10_run {n : Nat} {x1 : Int32} {m m' : Mem} {r : Unit} (hL : PL m) (h : P_Parting_remember_10 n x1 m = some (r, m')) : Run k_P_Parting_remember 10 [(0, .ref 41), (1, .int x1)] [] m none m' ∧ PL m' := by
  induction n generalizing x1 m r m' with
  | zero => exact absurd h (by simp [P_Parting_remember_10])
  | succ n ih =>
    rw [P_Parting_remember_10.eq_2] at h
    refine ai (r_iload_n (pc := 10) (k := 1) (by decide +kernel : decode k_P_Parting_remember.2.1 10 = .ok (.iload_n 1, 1)) rfl rfl) ?_
    refine ai (p_aload_n (pc := 11) (k := 0) (by decide +kernel : decode k_P_Parting_remember.2.1 11 = .ok (.aload_n 0, 1)) rfl rfl) ?_
    refine ai (r_getI (pc := 12) (by decide +kernel : decode k_P_Parting_remember.2.1 12 = .ok (.getfield 53, 3)) lg_7_53 (by decide) (PC_41 hL).1) ?_
    rcases ite_some h with ⟨c1, h⟩ | ⟨c1, h⟩
    · refine ai (r_icmp_ge_t (pc := 15) (tgt := 63) (by decide +kernel : decode k_P_Parting_remember.2.1 15 = .ok (.if_icmp .ge (48), 3)) (by decide) c1) ?_
      cases h
      exact ⟨r_vret rfl (by decide +kernel : decode k_P_Parting_remember.2.1 63 = .ok (.return_, 1)), hL⟩
    · refine ai (r_icmp_ge_f (pc := 15) 63 (by decide +kernel : decode k_P_Parting_remember.2.1 15 = .ok (.if_icmp .ge (48), 3)) (by decide) c1) ?_
      refine ai (p_aload_n (pc := 18) (k := 0) (by decide +kernel : decode k_P_Parting_remember.2.1 18 = .ok (.aload_n 0, 1)) rfl rfl) ?_
      refine ai (p_getr (pc := 19) (PR_898_41 hL) (by decide +kernel : decode k_P_Parting_remember.2.1 19 = .ok (.getfield 18, 3)) lg_7_18 (PC_41 hL).1) ?_
      refine ai (p_aload_n (pc := 22) (k := 0) (by decide +kernel : decode k_P_Parting_remember.2.1 22 = .ok (.aload_n 0, 1)) rfl rfl) ?_
      refine ai (p_getr (pc := 23) (PR_900_41 hL) (by decide +kernel : decode k_P_Parting_remember.2.1 23 = .ok (.getfield 24, 3)) lg_7_24 (PC_41 hL).1) ?_
      refine ai (r_iload_n (pc := 26) (k := 1) (by decide +kernel : decode k_P_Parting_remember.2.1 26 = .ok (.iload_n 1, 1)) rfl rfl) ?_
      obtain ⟨g2, h⟩ := gd_some h
      refine ai (p_iald (pc := 27) (by decide +kernel : decode k_P_Parting_remember.2.1 27 = .ok (.iaload, 1)) (PC_46 hL).1 (PC_46 hL).2 g2) ?_
      refine ai (p_aload_n (pc := 28) (k := 0) (by decide +kernel : decode k_P_Parting_remember.2.1 28 = .ok (.aload_n 0, 1)) rfl rfl) ?_
      refine ai (p_getr (pc := 29) (PR_904_41 hL) (by decide +kernel : decode k_P_Parting_remember.2.1 29 = .ok (.getfield 33, 3)) lg_7_33 (PC_41 hL).1) ?_
      refine ai (r_iload_n (pc := 32) (k := 1) (by decide +kernel : decode k_P_Parting_remember.2.1 32 = .ok (.iload_n 1, 1)) rfl rfl) ?_
      obtain ⟨g3, h⟩ := gd_some h
      refine ai (p_iald (pc := 33) (by decide +kernel : decode k_P_Parting_remember.2.1 33 = .ok (.iaload, 1)) (PC_49 hL).1 (PC_49 hL).2 g3) ?_
      obtain ⟨g4, h⟩ := gd_some h
      have c5 := (PC_44 hL).1
      have c6 := (PC_44 hL).2
      obtain ⟨m7, hm7, h⟩ := vb_some h
      have hL : PL m7 := by rw [hm7]; exact hL
      refine ai (p_iast (pc := 34) hm7 (by decide +kernel : decode k_P_Parting_remember.2.1 34 = .ok (.iastore, 1)) c5 c6 g4) ?_
      refine ai (p_aload_n (pc := 35) (k := 0) (by decide +kernel : decode k_P_Parting_remember.2.1 35 = .ok (.aload_n 0, 1)) rfl rfl) ?_
      refine ai (p_getr (pc := 36) (PR_899_41 hL) (by decide +kernel : decode k_P_Parting_remember.2.1 36 = .ok (.getfield 21, 3)) lg_7_21 (PC_41 hL).1) ?_
      refine ai (p_aload_n (pc := 39) (k := 0) (by decide +kernel : decode k_P_Parting_remember.2.1 39 = .ok (.aload_n 0, 1)) rfl rfl) ?_
      refine ai (p_getr (pc := 40) (PR_900_41 hL) (by decide +kernel : decode k_P_Parting_remember.2.1 40 = .ok (.getfield 24, 3)) lg_7_24 (PC_41 hL).1) ?_
      refine ai (r_iload_n (pc := 43) (k := 1) (by decide +kernel : decode k_P_Parting_remember.2.1 43 = .ok (.iload_n 1, 1)) rfl rfl) ?_
      obtain ⟨g8, h⟩ := gd_some h
      refine ai (p_iald (pc := 44) (by decide +kernel : decode k_P_Parting_remember.2.1 44 = .ok (.iaload, 1)) (PC_46 hL).1 (PC_46 hL).2 g8) ?_
      refine ai (p_aload_n (pc := 45) (k := 0) (by decide +kernel : decode k_P_Parting_remember.2.1 45 = .ok (.aload_n 0, 1)) rfl rfl) ?_
      refine ai (p_getr (pc := 46) (PR_905_41 hL) (by decide +kernel : decode k_P_Parting_remember.2.1 46 = .ok (.getfield 36, 3)) lg_7_36 (PC_41 hL).1) ?_
      refine ai (p_aload_n (pc := 49) (k := 0) (by decide +kernel : decode k_P_Parting_remember.2.1 49 = .ok (.aload_n 0, 1)) rfl rfl) ?_
      refine ai (p_getr (pc := 50) (PR_904_41 hL) (by decide +kernel : decode k_P_Parting_remember.2.1 50 = .ok (.getfield 33, 3)) lg_7_33 (PC_41 hL).1) ?_
      refine ai (r_iload_n (pc := 53) (k := 1) (by decide +kernel : decode k_P_Parting_remember.2.1 53 = .ok (.iload_n 1, 1)) rfl rfl) ?_
      obtain ⟨g9, h⟩ := gd_some h
      refine ai (p_iald (pc := 54) (by decide +kernel : decode k_P_Parting_remember.2.1 54 = .ok (.iaload, 1)) (PC_49 hL).1 (PC_49 hL).2 g9) ?_
      obtain ⟨g10, h⟩ := gd_some h
      refine ai (p_iald (pc := 55) (by decide +kernel : decode k_P_Parting_remember.2.1 55 = .ok (.iaload, 1)) (PC_50 hL).1 (PC_50 hL).2 g10) ?_
      obtain ⟨g11, h⟩ := gd_some h
      have c12 := (PC_45 hL).1
      have c13 := (PC_45 hL).2
      obtain ⟨m14, hm14, h⟩ := vb_some h
      have hL : PL m14 := by rw [hm14]; exact hL
      refine ai (p_iast (pc := 56) hm14 (by decide +kernel : decode k_P_Parting_remember.2.1 56 = .ok (.iastore, 1)) c12 c13 g11) ?_
      obtain ⟨v15, hv15, h⟩ := vb_some h
      refine ai (e_iinc (pc := 57) (k := 1) hv15 ic_1 (by decide +kernel : decode k_P_Parting_remember.2.1 57 = .ok (.iinc 1 (1), 3)) rfl (by decide) rfl (ls2 := [(1, .int v15), (0, .ref 41)]) (i := 1)) ?_
      refine ai (r_goto (pc := 60) (tgt := 10) (by decide +kernel : decode k_P_Parting_remember.2.1 60 = .ok (.goto (-50), 3)) (by decide)) ?_
      exact (ai (r_sub [1, 0] rfl) (ih hL h))
set_option maxRecDepth 100000 in
set_option maxHeartbeats 4000000 in
theorem P_Parting_remember_run {m m' : Mem} {r : Unit} (hL : PL m) (h : P_Parting_remember m = some (r, m')) : Run k_P_Parting_remember 0 [(0, .ref 41)] [] m none m' ∧ PL m' := by
  unfold P_Parting_remember at h
  refine ai (p_aload_n (pc := 0) (k := 0) (by decide +kernel : decode k_P_Parting_remember.2.1 0 = .ok (.aload_n 0, 1)) rfl rfl) ?_
  refine ai (p_getr (pc := 1) (PR_898_41 hL) (by decide +kernel : decode k_P_Parting_remember.2.1 1 = .ok (.getfield 18, 3)) lg_7_18 (PC_41 hL).1) ?_
  refine ai (r_iconst (pc := 4) (by decide +kernel : decode k_P_Parting_remember.2.1 4 = .ok (.iconst (-1), 1)) ic_m1) ?_
  obtain ⟨r1, m2, hr1, h⟩ := bn_some h
  have q3 := J_fill_run hr1
  have hL := PL.kp hL q3.2
  refine ai (q_callS (pc := 5) (As := [.ref 44, .int (-1)]) (st := []) (st2 := []) rfl rfl (by decide +kernel : decode k_P_Parting_remember.2.1 5 = .ok (.invokestatic 39, 3)) lc_7_39 mo_J_fill ⟨Nat.le_of_ble_eq_true rfl, Nat.le_of_ble_eq_true rfl⟩ (Nat.le_of_ble_eq_true rfl) (Nat.le_of_ble_eq_true rfl) q3.1) ?_
  refine ai (r_iconst (pc := 8) (by decide +kernel : decode k_P_Parting_remember.2.1 8 = .ok (.iconst 0, 1)) ic_0) ?_
  refine ai (e_istore_n (pc := 9) rfl (by decide +kernel : decode k_P_Parting_remember.2.1 9 = .ok (.istore_n 1, 1)) rfl (by decide) rfl (ls2 := [(1, .int 0), (0, .ref 41)]) (i := 1)) ?_
  exact (ai (r_sub [1, 0] rfl) (P_Parting_remember_10_run hL h))
set_option maxRecDepth 100000 in
set_option maxHeartbeats 4000000 in
theorem P_Parting_divide_58_run {m m' : Mem} {r : Int32} (hL : PL m) (h : P_Parting_divide_58 m = some (r, m')) : Run k_P_Parting_divide 58 [(0, .ref 41)] [] m (some (.int r)) m' ∧ PL m' := by
  unfold P_Parting_divide_58 at h
  refine ai (p_aload_n (pc := 58) (k := 0) (by decide +kernel : decode k_P_Parting_divide.2.1 58 = .ok (.aload_n 0, 1)) rfl rfl) ?_
  refine ai (r_getI (pc := 59) (by decide +kernel : decode k_P_Parting_divide.2.1 59 = .ok (.getfield 49, 3)) lg_7_49 (by decide) (PC_41 hL).1) ?_
  refine ai (r_iconst (pc := 62) (by decide +kernel : decode k_P_Parting_divide.2.1 62 = .ok (.iconst (-1), 1)) ic_m1) ?_
  rcases ite_some h with ⟨c1, h⟩ | ⟨c1, h⟩
  · refine ai (r_icmp_ne_f (pc := 63) 69 (by decide +kernel : decode k_P_Parting_divide.2.1 63 = .ok (.if_icmp .ne (6), 3)) (by decide) c1) ?_
    refine ai (r_bipush (pc := 66) (by decide +kernel : decode k_P_Parting_divide.2.1 66 = .ok (.bipush (-2), 2)) (by decide : _ = (-2 : Int32))) ?_
    cases h
    exact ⟨r_iret rfl (by decide +kernel : decode k_P_Parting_divide.2.1 68 = .ok (.ireturn, 1)), hL⟩
  · refine ai (r_icmp_ne_t (pc := 63) (tgt := 69) (by decide +kernel : decode k_P_Parting_divide.2.1 63 = .ok (.if_icmp .ne (6), 3)) (by decide) c1) ?_
    refine ai (p_aload_n (pc := 69) (k := 0) (by decide +kernel : decode k_P_Parting_divide.2.1 69 = .ok (.aload_n 0, 1)) rfl rfl) ?_
    obtain ⟨r2, m3, hr2, h⟩ := bn_some h
    have q4 := P_Parting_remember_run hL hr2
    have c5 := (PC_41 hL).1
    have hL := q4.2
    refine ai (q_callV (pc := 70) (As := []) (st := []) (st2 := []) (b := 41) rfl rfl (by decide +kernel : decode k_P_Parting_divide.2.1 70 = .ok (.invokevirtual 64, 3)) lc_7_64 mo_P_Parting_remember ⟨Nat.le_of_ble_eq_true rfl, Nat.le_of_ble_eq_true rfl⟩ (Nat.le_of_ble_eq_true rfl) (Nat.le_of_ble_eq_true rfl) c5 q4.1) ?_
    refine ai (p_aload_n (pc := 73) (k := 0) (by decide +kernel : decode k_P_Parting_divide.2.1 73 = .ok (.aload_n 0, 1)) rfl rfl) ?_
    refine ai (r_getI (pc := 74) (by decide +kernel : decode k_P_Parting_divide.2.1 74 = .ok (.getfield 49, 3)) lg_7_49 (by decide) (PC_41 hL).1) ?_
    cases h
    exact ⟨r_iret rfl (by decide +kernel : decode k_P_Parting_divide.2.1 77 = .ok (.ireturn, 1)), hL⟩
set_option maxRecDepth 100000 in
set_option maxHeartbeats 4000000 in
theorem P_Parting_divide_27_run {n : Nat} {x2 : Int32} {x3 : Int32} {x4 : Int32} {x5 : Int32} {m m' : Mem} {r : Int32} (hL : PL m) (h : P_Parting_divide_27 n x2 x3 x4 x5 m = some (r, m')) : Run k_P_Parting_divide 27 [(0, .ref 41), (2, .int x2), (3, .int x3), (4, .int x4), (5, .int x5)] [] m (some (.int r)) m' ∧ PL m' := by
  induction n generalizing x2 x3 x4 x5 m r m' with
  | zero => exact absurd h (by simp [P_Parting_divide_27])
  | succ n ih =>
    rw [P_Parting_divide_27.eq_2] at h
    refine ai (r_iload (pc := 27) (k := 4) (by decide +kernel : decode k_P_Parting_divide.2.1 27 = .ok (.iload 5, 2)) rfl) ?_
    refine ai (r_sipush (pc := 29) (by decide +kernel : decode k_P_Parting_divide.2.1 29 = .ok (.sipush (877), 3)) (by decide : _ = (877 : Int32))) ?_
    rcases ite_some h with ⟨c1, h⟩ | ⟨c1, h⟩
    · refine ai (r_icmp_ge_t (pc := 32) (tgt := 58) (by decide +kernel : decode k_P_Parting_divide.2.1 32 = .ok (.if_icmp .ge (26), 3)) (by decide) c1) ?_
      exact (ai (r_sub [0] rfl) (P_Parting_divide_58_run hL h))
    · refine ai (r_icmp_ge_f (pc := 32) 58 (by decide +kernel : decode k_P_Parting_divide.2.1 32 = .ok (.if_icmp .ge (26), 3)) (by decide) c1) ?_
      refine ai (r_iload (pc := 35) (k := 3) (by decide +kernel : decode k_P_Parting_divide.2.1 35 = .ok (.iload 4, 2)) rfl) ?_
      rcases ite_some h with ⟨c2, h⟩ | ⟨c2, h⟩
      · refine ai (r_if_eq_t (pc := 37) (tgt := 58) (by decide +kernel : decode k_P_Parting_divide.2.1 37 = .ok (.ifCond .eq (21), 3)) (by decide) c2) ?_
        exact (ai (r_sub [0] rfl) (P_Parting_divide_58_run hL h))
      · refine ai (r_if_eq_f (pc := 37) 58 (by decide +kernel : decode k_P_Parting_divide.2.1 37 = .ok (.ifCond .eq (21), 3)) (by decide) c2) ?_
        refine ai (p_aload_n (pc := 40) (k := 0) (by decide +kernel : decode k_P_Parting_divide.2.1 40 = .ok (.aload_n 0, 1)) rfl rfl) ?_
        refine ai (r_iload_n (pc := 41) (k := 1) (by decide +kernel : decode k_P_Parting_divide.2.1 41 = .ok (.iload_n 2, 1)) rfl rfl) ?_
        refine ai (r_iload_n (pc := 42) (k := 2) (by decide +kernel : decode k_P_Parting_divide.2.1 42 = .ok (.iload_n 3, 1)) rfl rfl) ?_
        obtain ⟨r3, m4, hr3, h⟩ := bn_some h
        have q5 := P_Parting_weigh_run hL hr3
        have c6 := (PC_41 hL).1
        have hL := q5.2
        refine ai (q_callV (pc := 43) (As := [.int x2, .int x3]) (st := []) (st2 := []) (b := 41) rfl rfl (by decide +kernel : decode k_P_Parting_divide.2.1 43 = .ok (.invokevirtual 56, 3)) lc_7_56 mo_P_Parting_weigh ⟨Nat.le_of_ble_eq_true rfl, Nat.le_of_ble_eq_true rfl⟩ (Nat.le_of_ble_eq_true rfl) (Nat.le_of_ble_eq_true rfl) c6 q5.1) ?_
        refine ai (p_aload_n (pc := 46) (k := 0) (by decide +kernel : decode k_P_Parting_divide.2.1 46 = .ok (.aload_n 0, 1)) rfl rfl) ?_
        obtain ⟨r7, m8, hr7, h⟩ := bn_some h
        have q9 := P_Parting_nextWay_run hL hr7
        have c10 := (PC_41 hL).1
        have hL := q9.2
        refine ai (q_callV (pc := 47) (As := []) (st := []) (st2 := [.int r7]) (b := 41) rfl rfl (by decide +kernel : decode k_P_Parting_divide.2.1 47 = .ok (.invokevirtual 60, 3)) lc_7_60 mo_P_Parting_nextWay ⟨Nat.le_of_ble_eq_true rfl, Nat.le_of_ble_eq_true rfl⟩ (Nat.le_of_ble_eq_true rfl) (Nat.le_of_ble_eq_true rfl) c10 q9.1) ?_
        refine ai (e_istore (pc := 50) rfl (by decide +kernel : decode k_P_Parting_divide.2.1 50 = .ok (.istore 4, 2)) (by decide) rfl (ls2 := [(4, .int r7), (0, .ref 41), (2, .int x2), (3, .int x3), (5, .int x5)]) (i := 4)) ?_
        obtain ⟨v11, hv11, h⟩ := vb_some h
        refine ai (e_iinc (pc := 52) (k := 4) hv11 ic_1 (by decide +kernel : decode k_P_Parting_divide.2.1 52 = .ok (.iinc 5 (1), 3)) rfl (by decide) rfl (ls2 := [(5, .int v11), (4, .int r7), (0, .ref 41), (2, .int x2), (3, .int x3)]) (i := 5)) ?_
        refine ai (r_goto (pc := 55) (tgt := 27) (by decide +kernel : decode k_P_Parting_divide.2.1 55 = .ok (.goto (-28), 3)) (by decide)) ?_
        exact (ai (r_sub [2, 3, 4, 1, 0] rfl) (ih hL h))
set_option maxRecDepth 100000 in
set_option maxHeartbeats 4000000 in
theorem P_Parting_divide_22_run {x2 : Int32} {x3 : Int32} {s0 : Int32} {m m' : Mem} {r : Int32} (hL : PL m) (h : P_Parting_divide_22 x2 x3 s0 m = some (r, m')) : Run k_P_Parting_divide 22 [(0, .ref 41), (2, .int x2), (3, .int x3)] [.int s0] m (some (.int r)) m' ∧ PL m' := by
  unfold P_Parting_divide_22 at h
  refine ai (e_istore (pc := 22) rfl (by decide +kernel : decode k_P_Parting_divide.2.1 22 = .ok (.istore 4, 2)) (by decide) rfl (ls2 := [(4, .int s0), (0, .ref 41), (2, .int x2), (3, .int x3)]) (i := 4)) ?_
  refine ai (r_iconst (pc := 24) (by decide +kernel : decode k_P_Parting_divide.2.1 24 = .ok (.iconst 0, 1)) ic_0) ?_
  refine ai (e_istore (pc := 25) rfl (by decide +kernel : decode k_P_Parting_divide.2.1 25 = .ok (.istore 5, 2)) (by decide) rfl (ls2 := [(5, .int 0), (4, .int s0), (0, .ref 41), (2, .int x2), (3, .int x3)]) (i := 5)) ?_
  exact (ai (r_sub [2, 3, 4, 1, 0] rfl) (P_Parting_divide_27_run hL h))
set_option maxRecDepth 100000 in
set_option maxHeartbeats 4000000 in
theorem P_Parting_divide_run {x1 : Int32} {x2 : Int32} {x3 : Int32} {m m' : Mem} {r : Int32} (hL : PL m) (h : P_Parting_divide x1 x2 x3 m = some (r, m')) : Run k_P_Parting_divide 0 [(0, .ref 41), (1, .int x1), (2, .int x2), (3, .int x3)] [] m (some (.int r)) m' ∧ PL m' := by
  unfold P_Parting_divide at h
  refine ai (p_aload_n (pc := 0) (k := 0) (by decide +kernel : decode k_P_Parting_divide.2.1 0 = .ok (.aload_n 0, 1)) rfl rfl) ?_
  refine ai (r_iload_n (pc := 1) (k := 1) (by decide +kernel : decode k_P_Parting_divide.2.1 1 = .ok (.iload_n 1, 1)) rfl rfl) ?_
  obtain ⟨r1, m2, hr1, h⟩ := bn_some h
  have q3 := P_Parting_gather_run hL hr1
  have c4 := (PC_41 hL).1
  have hL := q3.2
  refine ai (q_callV (pc := 2) (As := [.int x1]) (st := []) (st2 := []) (b := 41) rfl rfl (by decide +kernel : decode k_P_Parting_divide.2.1 2 = .ok (.invokevirtual 45, 3)) lc_7_45 mo_P_Parting_gather ⟨Nat.le_of_ble_eq_true rfl, Nat.le_of_ble_eq_true rfl⟩ (Nat.le_of_ble_eq_true rfl) (Nat.le_of_ble_eq_true rfl) c4 q3.1) ?_
  refine ai (p_aload_n (pc := 5) (k := 0) (by decide +kernel : decode k_P_Parting_divide.2.1 5 = .ok (.aload_n 0, 1)) rfl rfl) ?_
  refine ai (r_iconst (pc := 6) (by decide +kernel : decode k_P_Parting_divide.2.1 6 = .ok (.iconst (-1), 1)) ic_m1) ?_
  have c5 := (PC_41 hL).1
  obtain ⟨m6, hm6, h⟩ := vb_some h
  have hL : PL m6 := by rw [hm6]; exact hL
  refine ai (p_putI (pc := 7) hm6 (by decide +kernel : decode k_P_Parting_divide.2.1 7 = .ok (.putfield 49, 3)) lp_7_49 c5) ?_
  refine ai (p_aload_n (pc := 10) (k := 0) (by decide +kernel : decode k_P_Parting_divide.2.1 10 = .ok (.aload_n 0, 1)) rfl rfl) ?_
  refine ai (r_getI (pc := 11) (by decide +kernel : decode k_P_Parting_divide.2.1 11 = .ok (.getfield 53, 3)) lg_7_53 (by decide) (PC_41 hL).1) ?_
  rcases ite_some h with ⟨c7, h⟩ | ⟨c7, h⟩
  · refine ai (r_if_le_t (pc := 14) (tgt := 21) (by decide +kernel : decode k_P_Parting_divide.2.1 14 = .ok (.ifCond .le (7), 3)) (by decide) c7) ?_
    refine ai (r_iconst (pc := 21) (by decide +kernel : decode k_P_Parting_divide.2.1 21 = .ok (.iconst 0, 1)) ic_0) ?_
    exact (ai (r_sub [0, 2, 3] rfl) (P_Parting_divide_22_run hL h))
  · refine ai (r_if_le_f (pc := 14) 21 (by decide +kernel : decode k_P_Parting_divide.2.1 14 = .ok (.ifCond .le (7), 3)) (by decide) c7) ?_
    refine ai (r_iconst (pc := 17) (by decide +kernel : decode k_P_Parting_divide.2.1 17 = .ok (.iconst 1, 1)) ic_1) ?_
    refine ai (r_goto (pc := 18) (tgt := 22) (by decide +kernel : decode k_P_Parting_divide.2.1 18 = .ok (.goto (4), 3)) (by decide)) ?_
    exact (ai (r_sub [0, 2, 3] rfl) (P_Parting_divide_22_run hL h))
set_option maxRecDepth 100000 in
set_option maxHeartbeats 4000000 in
theorem P_parting_run {x1 : Int32} {x2 : Int32} {x3 : Int32} {m m' : Mem} {r : Int32} (hL : PL m) (h : P_parting x1 x2 x3 m = some (r, m')) : Run k_P_parting 0 [(0, .ref 0), (1, .int x1), (2, .int x2), (3, .int x3)] [] m (some (.int r)) m' ∧ PL m' := by
  unfold P_parting at h
  refine ai (r_iload_n (pc := 0) (k := 1) (by decide +kernel : decode k_P_parting.2.1 0 = .ok (.iload_n 1, 1)) rfl rfl) ?_
  refine ai (r_iconst (pc := 1) (by decide +kernel : decode k_P_parting.2.1 1 = .ok (.iconst 1, 1)) ic_1) ?_
  refine ai (r_ldc_w (pc := 2) (by decide +kernel : decode k_P_parting.2.1 2 = .ok (.ldc_w 346, 3)) lk_11_346) ?_
  obtain ⟨r1, hr1, h⟩ := bp_some h
  refine ai (q_callS (pc := 5) (As := [.int x1, .int 1, .int 65535]) (st := []) (st2 := [.int r1]) rfl rfl (by decide +kernel : decode k_P_parting.2.1 5 = .ok (.invokestatic 117, 3)) lc_11_117 mo_P_within ⟨Nat.le_of_ble_eq_true rfl, Nat.le_of_ble_eq_true rfl⟩ (Nat.le_of_ble_eq_true rfl) (Nat.le_of_ble_eq_true rfl) (P_within_run hr1)) ?_
  rcases ite_some h with ⟨c2, h⟩ | ⟨c2, h⟩
  · refine ai (r_if_eq_t (pc := 8) (tgt := 20) (by decide +kernel : decode k_P_parting.2.1 8 = .ok (.ifCond .eq (12), 3)) (by decide) c2) ?_
    refine ai (r_iconst (pc := 20) (by decide +kernel : decode k_P_parting.2.1 20 = .ok (.iconst (-1), 1)) ic_m1) ?_
    cases h
    exact ⟨r_iret rfl (by decide +kernel : decode k_P_parting.2.1 21 = .ok (.ireturn, 1)), hL⟩
  · refine ai (r_if_eq_f (pc := 8) 20 (by decide +kernel : decode k_P_parting.2.1 8 = .ok (.ifCond .eq (12), 3)) (by decide) c2) ?_
    refine ai (r_iload_n (pc := 11) (k := 1) (by decide +kernel : decode k_P_parting.2.1 11 = .ok (.iload_n 1, 1)) rfl rfl) ?_
    obtain ⟨r3, hr3, h⟩ := bp_some h
    refine ai (q_callS (pc := 12) (As := [.int x1]) (st := []) (st2 := [.int r3]) rfl rfl (by decide +kernel : decode k_P_parting.2.1 12 = .ok (.invokestatic 347, 3)) lc_11_347 mo_J_bitCount ⟨Nat.le_of_ble_eq_true rfl, Nat.le_of_ble_eq_true rfl⟩ (Nat.le_of_ble_eq_true rfl) (Nat.le_of_ble_eq_true rfl) (J_bitCount_run hr3)) ?_
    refine ai (r_bipush (pc := 15) (by decide +kernel : decode k_P_parting.2.1 15 = .ok (.bipush (7), 2)) (by decide : _ = (7 : Int32))) ?_
    rcases ite_some h with ⟨c4, h⟩ | ⟨c4, h⟩
    · refine ai (r_icmp_le_t (pc := 17) (tgt := 22) (by decide +kernel : decode k_P_parting.2.1 17 = .ok (.if_icmp .le (5), 3)) (by decide) c4) ?_
      refine ai (r_iload_n (pc := 22) (k := 2) (by decide +kernel : decode k_P_parting.2.1 22 = .ok (.iload_n 2, 1)) rfl rfl) ?_
      refine ai (r_iconst (pc := 23) (by decide +kernel : decode k_P_parting.2.1 23 = .ok (.iconst 1, 1)) ic_1) ?_
      refine ai (r_bipush (pc := 24) (by decide +kernel : decode k_P_parting.2.1 24 = .ok (.bipush (7), 2)) (by decide : _ = (7 : Int32))) ?_
      obtain ⟨r5, hr5, h⟩ := bp_some h
      refine ai (q_callS (pc := 26) (As := [.int x2, .int 1, .int 7]) (st := []) (st2 := [.int r5]) rfl rfl (by decide +kernel : decode k_P_parting.2.1 26 = .ok (.invokestatic 117, 3)) lc_11_117 mo_P_within ⟨Nat.le_of_ble_eq_true rfl, Nat.le_of_ble_eq_true rfl⟩ (Nat.le_of_ble_eq_true rfl) (Nat.le_of_ble_eq_true rfl) (P_within_run hr5)) ?_
      rcases ite_some h with ⟨c6, h⟩ | ⟨c6, h⟩
      · refine ai (r_if_eq_t (pc := 29) (tgt := 43) (by decide +kernel : decode k_P_parting.2.1 29 = .ok (.ifCond .eq (14), 3)) (by decide) c6) ?_
        refine ai (r_iconst (pc := 43) (by decide +kernel : decode k_P_parting.2.1 43 = .ok (.iconst (-1), 1)) ic_m1) ?_
        cases h
        exact ⟨r_iret rfl (by decide +kernel : decode k_P_parting.2.1 44 = .ok (.ireturn, 1)), hL⟩
      · refine ai (r_if_eq_f (pc := 29) 43 (by decide +kernel : decode k_P_parting.2.1 29 = .ok (.ifCond .eq (14), 3)) (by decide) c6) ?_
        refine ai (r_iload_n (pc := 32) (k := 3) (by decide +kernel : decode k_P_parting.2.1 32 = .ok (.iload_n 3, 1)) rfl rfl) ?_
        refine ai (r_iconst (pc := 33) (by decide +kernel : decode k_P_parting.2.1 33 = .ok (.iconst 0, 1)) ic_0) ?_
        refine ai (r_sipush (pc := 34) (by decide +kernel : decode k_P_parting.2.1 34 = .ok (.sipush (999), 3)) (by decide : _ = (999 : Int32))) ?_
        obtain ⟨r7, hr7, h⟩ := bp_some h
        refine ai (q_callS (pc := 37) (As := [.int x3, .int 0, .int 999]) (st := []) (st2 := [.int r7]) rfl rfl (by decide +kernel : decode k_P_parting.2.1 37 = .ok (.invokestatic 117, 3)) lc_11_117 mo_P_within ⟨Nat.le_of_ble_eq_true rfl, Nat.le_of_ble_eq_true rfl⟩ (Nat.le_of_ble_eq_true rfl) (Nat.le_of_ble_eq_true rfl) (P_within_run hr7)) ?_
        rcases ite_some h with ⟨c8, h⟩ | ⟨c8, h⟩
        · refine ai (r_if_ne_f (pc := 40) 45 (by decide +kernel : decode k_P_parting.2.1 40 = .ok (.ifCond .ne (5), 3)) (by decide) c8) ?_
          refine ai (r_iconst (pc := 43) (by decide +kernel : decode k_P_parting.2.1 43 = .ok (.iconst (-1), 1)) ic_m1) ?_
          cases h
          exact ⟨r_iret rfl (by decide +kernel : decode k_P_parting.2.1 44 = .ok (.ireturn, 1)), hL⟩
        · refine ai (r_if_ne_t (pc := 40) (tgt := 45) (by decide +kernel : decode k_P_parting.2.1 40 = .ok (.ifCond .ne (5), 3)) (by decide) c8) ?_
          refine ai (p_aload_n (pc := 45) (k := 0) (by decide +kernel : decode k_P_parting.2.1 45 = .ok (.aload_n 0, 1)) rfl rfl) ?_
          refine ai (p_getr (pc := 46) (PR_1414_0 hL) (by decide +kernel : decode k_P_parting.2.1 46 = .ok (.getfield 67, 3)) lg_11_67 (PC_0 hL).1) ?_
          refine ai (r_iload_n (pc := 49) (k := 1) (by decide +kernel : decode k_P_parting.2.1 49 = .ok (.iload_n 1, 1)) rfl rfl) ?_
          refine ai (r_iload_n (pc := 50) (k := 2) (by decide +kernel : decode k_P_parting.2.1 50 = .ok (.iload_n 2, 1)) rfl rfl) ?_
          refine ai (r_iload_n (pc := 51) (k := 3) (by decide +kernel : decode k_P_parting.2.1 51 = .ok (.iload_n 3, 1)) rfl rfl) ?_
          obtain ⟨r9, m10, hr9, h⟩ := bn_some h
          have q11 := P_Parting_divide_run hL hr9
          have c12 := (PC_41 hL).1
          have hL := q11.2
          refine ai (q_callV (pc := 52) (As := [.int x1, .int x2, .int x3]) (st := []) (st2 := [.int r9]) (b := 41) rfl rfl (by decide +kernel : decode k_P_parting.2.1 52 = .ok (.invokevirtual 352, 3)) lc_11_352 mo_P_Parting_divide ⟨Nat.le_of_ble_eq_true rfl, Nat.le_of_ble_eq_true rfl⟩ (Nat.le_of_ble_eq_true rfl) (Nat.le_of_ble_eq_true rfl) c12 q11.1) ?_
          cases h
          exact ⟨r_iret rfl (by decide +kernel : decode k_P_parting.2.1 55 = .ok (.ireturn, 1)), hL⟩
    · refine ai (r_icmp_le_f (pc := 17) 22 (by decide +kernel : decode k_P_parting.2.1 17 = .ok (.if_icmp .le (5), 3)) (by decide) c4) ?_
      refine ai (r_iconst (pc := 20) (by decide +kernel : decode k_P_parting.2.1 20 = .ok (.iconst (-1), 1)) ic_m1) ?_
      cases h
      exact ⟨r_iret rfl (by decide +kernel : decode k_P_parting.2.1 21 = .ok (.ireturn, 1)), hL⟩
