/-! written by gen/emit.py -/
set_option maxRecDepth 100000 in
set_option maxHeartbeats 4000000 in
theorem P_fate_64_run {x2 : Int32} {x6 : Option Nat} {m m' : Mem} {r : Int32} (hL : PL m) (h : P_fate_64 x2 x6 m = some (r, m')) : Run k_P_fate 64 [(2, .int x2), (6, va_rf x6)] [] m (some (.int r)) m' ∧ PL m' := by
  unfold P_fate_64 at h
  obtain ⟨a1, rfl, hha1⟩ := gs_some h
  have h := hha1
  refine ai (p_aload (pc := 64) (k := 1) (by decide +kernel : decode k_P_fate.2.1 64 = .ok (.aload 6, 2)) rfl) ?_
  obtain ⟨t2, h⟩ := gt_some h
  obtain ⟨a3, o4, h⟩ := gs_some h
  refine ai (p_getr (pc := 66) o4 (by decide +kernel : decode k_P_fate.2.1 66 = .ok (.getfield 210, 3)) lg_11_210 t2) ?_
  refine ai (r_iload_n (pc := 69) (k := 0) (by decide +kernel : decode k_P_fate.2.1 69 = .ok (.iload_n 2, 1)) rfl rfl) ?_
  obtain ⟨t5, h⟩ := gt_some h
  obtain ⟨g6, h⟩ := gd_some h
  obtain ⟨a7, o8, h⟩ := gs_some h
  refine ai (p_aaldr (pc := 70) (j := 0) (by decide) o8 (by decide +kernel : decode k_P_fate.2.1 70 = .ok (.aaload, 1)) t5 rfl g6) ?_
  obtain ⟨t9, h⟩ := gt_some h
  refine ai (r_getI (pc := 71) (by decide +kernel : decode k_P_fate.2.1 71 = .ok (.getfield 221, 3)) lg_11_221 (by decide) t9) ?_
  cases h
  exact ⟨r_iret rfl (by decide +kernel : decode k_P_fate.2.1 74 = .ok (.ireturn, 1)), hL⟩
set_option maxRecDepth 100000 in
set_option maxHeartbeats 4000000 in
theorem P_fate_run {x1 : Int32} {x2 : Int32} {x3 : Int32} {x4 : Int32} {x5 : Int32} {m m' : Mem} {r : Int32} (hL : PL m) (h : P_fate x1 x2 x3 x4 x5 m = some (r, m')) : Run k_P_fate 0 [(0, .ref 0), (1, .int x1), (2, .int x2), (3, .int x3), (4, .int x4), (5, .int x5)] [] m (some (.int r)) m' ∧ PL m' := by
  unfold P_fate at h
  refine ai (p_aload_n (pc := 0) (k := 0) (by decide +kernel : decode k_P_fate.2.1 0 = .ok (.aload_n 0, 1)) rfl rfl) ?_
  refine ai (r_iload_n (pc := 1) (k := 1) (by decide +kernel : decode k_P_fate.2.1 1 = .ok (.iload_n 1, 1)) rfl rfl) ?_
  refine ai (r_iload_n (pc := 2) (k := 3) (by decide +kernel : decode k_P_fate.2.1 2 = .ok (.iload_n 3, 1)) rfl rfl) ?_
  refine ai (r_iload (pc := 3) (k := 4) (by decide +kernel : decode k_P_fate.2.1 3 = .ok (.iload 4, 2)) rfl) ?_
  refine ai (r_iload (pc := 5) (k := 5) (by decide +kernel : decode k_P_fate.2.1 5 = .ok (.iload 5, 2)) rfl) ?_
  obtain ⟨r1, m2, hr1, h⟩ := bn_some h
  have q3 := P_opened_run hL hr1
  have c4 := (PC_0 hL).1
  have hL := q3.2
  refine ai (q_callV (pc := 7) (As := [.int x1, .int x3, .int x4, .int x5]) (st := []) (st2 := [va_rf r1]) (b := 0) rfl rfl (by decide +kernel : decode k_P_fate.2.1 7 = .ok (.invokevirtual 202, 3)) lc_11_202 mo_P_opened ⟨Nat.le_of_ble_eq_true rfl, Nat.le_of_ble_eq_true rfl⟩ (Nat.le_of_ble_eq_true rfl) (Nat.le_of_ble_eq_true rfl) c4 q3.1) ?_
  refine ai (r_astore (pc := 10) (by decide +kernel : decode k_P_fate.2.1 10 = .ok (.astore 6, 2)) (by decide) rfl (ls2 := [(6, va_rf r1), (0, .ref 0), (1, .int x1), (2, .int x2), (3, .int x3), (4, .int x4), (5, .int x5)]) (i := 6)) ?_
  refine ai (r_aload (pc := 12) (k := 0) (by decide +kernel : decode k_P_fate.2.1 12 = .ok (.aload 6, 2)) rfl) ?_
  rcases ite_some h with ⟨c5, h⟩ | ⟨c5, h⟩
  · refine ai (d_ifnull_t (pc := 14) (tgt := 33) c5 (by decide +kernel : decode k_P_fate.2.1 14 = .ok (.ifnull (19), 3)) (by decide)) ?_
    refine ai (r_iconst (pc := 33) (by decide +kernel : decode k_P_fate.2.1 33 = .ok (.iconst (-1), 1)) ic_m1) ?_
    cases h
    exact ⟨r_iret rfl (by decide +kernel : decode k_P_fate.2.1 34 = .ok (.ireturn, 1)), hL⟩
  · refine ai (d_ifnull_f (pc := 14) c5 (by decide +kernel : decode k_P_fate.2.1 14 = .ok (.ifnull (19), 3))) ?_
    refine ai (r_iload_n (pc := 17) (k := 3) (by decide +kernel : decode k_P_fate.2.1 17 = .ok (.iload_n 2, 1)) rfl rfl) ?_
    refine ai (r_iconst (pc := 18) (by decide +kernel : decode k_P_fate.2.1 18 = .ok (.iconst 0, 1)) ic_0) ?_
    obtain ⟨a6, rfl, hha6⟩ := gs_some h
    have h := hha6
    refine ai (p_aload (pc := 19) (k := 0) (by decide +kernel : decode k_P_fate.2.1 19 = .ok (.aload 6, 2)) rfl) ?_
    obtain ⟨t7, h⟩ := gt_some h
    obtain ⟨a8, o9, h⟩ := gs_some h
    refine ai (p_getr (pc := 21) o9 (by decide +kernel : decode k_P_fate.2.1 21 = .ok (.getfield 210, 3)) lg_11_210 t7) ?_
    obtain ⟨t10, h⟩ := gt_some h
    refine ai (p_alen (pc := 24) (by decide +kernel : decode k_P_fate.2.1 24 = .ok (.arraylength, 1)) (by rw [t10]; decide) rfl rfl) ?_
    refine ai (r_iconst (pc := 25) (by decide +kernel : decode k_P_fate.2.1 25 = .ok (.iconst 1, 1)) ic_1) ?_
    refine ai (r_isub (pc := 26) (by decide +kernel : decode k_P_fate.2.1 26 = .ok (.isub, 1))) ?_
    obtain ⟨r11, hr11, h⟩ := bp_some h
    refine ai (q_callS (pc := 27) (As := [.int x2, .int 0, .int ((Int32.ofNat (mN m2 a8)) - 1)]) (st := []) (st2 := [.int r11]) rfl rfl (by decide +kernel : decode k_P_fate.2.1 27 = .ok (.invokestatic 117, 3)) lc_11_117 mo_P_within ⟨Nat.le_of_ble_eq_true rfl, Nat.le_of_ble_eq_true rfl⟩ (Nat.le_of_ble_eq_true rfl) (Nat.le_of_ble_eq_true rfl) (P_within_run hr11)) ?_
    rcases ite_some h with ⟨c12, h⟩ | ⟨c12, h⟩
    · refine ai (r_if_ne_f (pc := 30) 35 (by decide +kernel : decode k_P_fate.2.1 30 = .ok (.ifCond .ne (5), 3)) (by decide) c12) ?_
      refine ai (r_iconst (pc := 33) (by decide +kernel : decode k_P_fate.2.1 33 = .ok (.iconst (-1), 1)) ic_m1) ?_
      cases h
      exact ⟨r_iret rfl (by decide +kernel : decode k_P_fate.2.1 34 = .ok (.ireturn, 1)), hL⟩
    · refine ai (r_if_ne_t (pc := 30) (tgt := 35) (by decide +kernel : decode k_P_fate.2.1 30 = .ok (.ifCond .ne (5), 3)) (by decide) c12) ?_
      refine ai (p_aload (pc := 35) (k := 0) (by decide +kernel : decode k_P_fate.2.1 35 = .ok (.aload 6, 2)) rfl) ?_
      refine ai (r_getI (pc := 37) (by decide +kernel : decode k_P_fate.2.1 37 = .ok (.getfield 206, 3)) lg_11_206 (by decide) t7) ?_
      rcases ite_some h with ⟨c13, h⟩ | ⟨c13, h⟩
      · refine ai (r_if_eq_t (pc := 40) (tgt := 62) (by decide +kernel : decode k_P_fate.2.1 40 = .ok (.ifCond .eq (22), 3)) (by decide) c13) ?_
        refine ai (r_iconst (pc := 62) (by decide +kernel : decode k_P_fate.2.1 62 = .ok (.iconst 1, 1)) ic_1) ?_
        cases h
        exact ⟨r_iret rfl (by decide +kernel : decode k_P_fate.2.1 63 = .ok (.ireturn, 1)), hL⟩
      · refine ai (r_if_eq_f (pc := 40) 62 (by decide +kernel : decode k_P_fate.2.1 40 = .ok (.ifCond .eq (22), 3)) (by decide) c13) ?_
        refine ai (p_aload (pc := 43) (k := 0) (by decide +kernel : decode k_P_fate.2.1 43 = .ok (.aload 6, 2)) rfl) ?_
        obtain ⟨r14, m15, hr14, h⟩ := bn_some h
        have q16 := P_Text_changesAward_run hL t7 hr14
        have hL := q16.2
        refine ai (q_callV (pc := 45) (As := []) (st := []) (st2 := [.int r14]) (b := a6) rfl rfl (by decide +kernel : decode k_P_fate.2.1 45 = .ok (.invokevirtual 214, 3)) lc_11_214 mo_P_Text_changesAward ⟨Nat.le_of_ble_eq_true rfl, Nat.le_of_ble_eq_true rfl⟩ (Nat.le_of_ble_eq_true rfl) (Nat.le_of_ble_eq_true rfl) t7 q16.1) ?_
        rcases ite_some h with ⟨c17, h⟩ | ⟨c17, h⟩
        · refine ai (r_if_eq_t (pc := 48) (tgt := 64) (by decide +kernel : decode k_P_fate.2.1 48 = .ok (.ifCond .eq (16), 3)) (by decide) c17) ?_
          exact (ai (r_sub [3, 0] rfl) (P_fate_64_run hL h))
        · refine ai (r_if_eq_f (pc := 48) 64 (by decide +kernel : decode k_P_fate.2.1 48 = .ok (.ifCond .eq (16), 3)) (by decide) c17) ?_
          refine ai (p_aload (pc := 51) (k := 0) (by decide +kernel : decode k_P_fate.2.1 51 = .ok (.aload 6, 2)) rfl) ?_
          obtain ⟨t18, h⟩ := gt_some h
          obtain ⟨a19, o20, h⟩ := gs_some h
          refine ai (p_getr (pc := 53) o20 (by decide +kernel : decode k_P_fate.2.1 53 = .ok (.getfield 217, 3)) lg_11_217 t18) ?_
          obtain ⟨t21, h⟩ := gt_some h
          refine ai (r_getI (pc := 56) (by decide +kernel : decode k_P_fate.2.1 56 = .ok (.getfield 206, 3)) lg_11_206 (by decide) t21) ?_
          rcases ite_some h with ⟨c22, h⟩ | ⟨c22, h⟩
          · refine ai (r_if_ne_f (pc := 59) 64 (by decide +kernel : decode k_P_fate.2.1 59 = .ok (.ifCond .ne (5), 3)) (by decide) c22) ?_
            refine ai (r_iconst (pc := 62) (by decide +kernel : decode k_P_fate.2.1 62 = .ok (.iconst 1, 1)) ic_1) ?_
            cases h
            exact ⟨r_iret rfl (by decide +kernel : decode k_P_fate.2.1 63 = .ok (.ireturn, 1)), hL⟩
          · refine ai (r_if_ne_t (pc := 59) (tgt := 64) (by decide +kernel : decode k_P_fate.2.1 59 = .ok (.ifCond .ne (5), 3)) (by decide) c22) ?_
            exact (ai (r_sub [3, 0] rfl) (P_fate_64_run hL h))
set_option maxRecDepth 100000 in
set_option maxHeartbeats 4000000 in
theorem P_item_run {x1 : Int32} {x2 : Int32} {x3 : Int32} {x4 : Int32} {x5 : Int32} {x6 : Int32} {m m' : Mem} {r : Int32} (hL : PL m) (h : P_item x1 x2 x3 x4 x5 x6 m = some (r, m')) : Run k_P_item 0 [(0, .ref 0), (1, .int x1), (2, .int x2), (3, .int x3), (4, .int x4), (5, .int x5), (6, .int x6)] [] m (some (.int r)) m' ∧ PL m' := by
  unfold P_item at h
  refine ai (p_aload_n (pc := 0) (k := 0) (by decide +kernel : decode k_P_item.2.1 0 = .ok (.aload_n 0, 1)) rfl rfl) ?_
  refine ai (r_iload_n (pc := 1) (k := 1) (by decide +kernel : decode k_P_item.2.1 1 = .ok (.iload_n 1, 1)) rfl rfl) ?_
  refine ai (r_iload_n (pc := 2) (k := 2) (by decide +kernel : decode k_P_item.2.1 2 = .ok (.iload_n 2, 1)) rfl rfl) ?_
  refine ai (r_iload_n (pc := 3) (k := 3) (by decide +kernel : decode k_P_item.2.1 3 = .ok (.iload_n 3, 1)) rfl rfl) ?_
  refine ai (r_iload (pc := 4) (k := 5) (by decide +kernel : decode k_P_item.2.1 4 = .ok (.iload 5, 2)) rfl) ?_
  obtain ⟨r1, m2, hr1, h⟩ := bn_some h
  have q3 := P_opened_run hL hr1
  have c4 := (PC_0 hL).1
  have hL := q3.2
  refine ai (q_callV (pc := 6) (As := [.int x1, .int x2, .int x3, .int x5]) (st := []) (st2 := [va_rf r1]) (b := 0) rfl rfl (by decide +kernel : decode k_P_item.2.1 6 = .ok (.invokevirtual 202, 3)) lc_11_202 mo_P_opened ⟨Nat.le_of_ble_eq_true rfl, Nat.le_of_ble_eq_true rfl⟩ (Nat.le_of_ble_eq_true rfl) (Nat.le_of_ble_eq_true rfl) c4 q3.1) ?_
  refine ai (r_astore (pc := 9) (by decide +kernel : decode k_P_item.2.1 9 = .ok (.astore 7, 2)) (by decide) rfl (ls2 := [(7, va_rf r1), (0, .ref 0), (1, .int x1), (2, .int x2), (3, .int x3), (4, .int x4), (5, .int x5), (6, .int x6)]) (i := 7)) ?_
  refine ai (r_aload (pc := 11) (k := 0) (by decide +kernel : decode k_P_item.2.1 11 = .ok (.aload 7, 2)) rfl) ?_
  rcases ite_some h with ⟨c5, h⟩ | ⟨c5, h⟩
  · refine ai (d_ifnull_t (pc := 13) (tgt := 40) c5 (by decide +kernel : decode k_P_item.2.1 13 = .ok (.ifnull (27), 3)) (by decide)) ?_
    refine ai (r_iconst (pc := 40) (by decide +kernel : decode k_P_item.2.1 40 = .ok (.iconst (-1), 1)) ic_m1) ?_
    cases h
    exact ⟨r_iret rfl (by decide +kernel : decode k_P_item.2.1 41 = .ok (.ireturn, 1)), hL⟩
  · refine ai (d_ifnull_f (pc := 13) c5 (by decide +kernel : decode k_P_item.2.1 13 = .ok (.ifnull (27), 3))) ?_
    obtain ⟨a6, rfl, hha6⟩ := gs_some h
    have h := hha6
    refine ai (p_aload (pc := 16) (k := 0) (by decide +kernel : decode k_P_item.2.1 16 = .ok (.aload 7, 2)) rfl) ?_
    obtain ⟨t7, h⟩ := gt_some h
    refine ai (r_getI (pc := 18) (by decide +kernel : decode k_P_item.2.1 18 = .ok (.getfield 206, 3)) lg_11_206 (by decide) t7) ?_
    rcases ite_some h with ⟨c8, h⟩ | ⟨c8, h⟩
    · refine ai (r_if_eq_t (pc := 21) (tgt := 40) (by decide +kernel : decode k_P_item.2.1 21 = .ok (.ifCond .eq (19), 3)) (by decide) c8) ?_
      refine ai (r_iconst (pc := 40) (by decide +kernel : decode k_P_item.2.1 40 = .ok (.iconst (-1), 1)) ic_m1) ?_
      cases h
      exact ⟨r_iret rfl (by decide +kernel : decode k_P_item.2.1 41 = .ok (.ireturn, 1)), hL⟩
    · refine ai (r_if_eq_f (pc := 21) 40 (by decide +kernel : decode k_P_item.2.1 21 = .ok (.ifCond .eq (19), 3)) (by decide) c8) ?_
      refine ai (r_iload (pc := 24) (k := 5) (by decide +kernel : decode k_P_item.2.1 24 = .ok (.iload 4, 2)) rfl) ?_
      refine ai (r_iconst (pc := 26) (by decide +kernel : decode k_P_item.2.1 26 = .ok (.iconst 0, 1)) ic_0) ?_
      refine ai (p_aload (pc := 27) (k := 0) (by decide +kernel : decode k_P_item.2.1 27 = .ok (.aload 7, 2)) rfl) ?_
      refine ai (r_getI (pc := 29) (by decide +kernel : decode k_P_item.2.1 29 = .ok (.getfield 226, 3)) lg_11_226 (by decide) t7) ?_
      refine ai (r_iconst (pc := 32) (by decide +kernel : decode k_P_item.2.1 32 = .ok (.iconst 1, 1)) ic_1) ?_
      refine ai (r_isub (pc := 33) (by decide +kernel : decode k_P_item.2.1 33 = .ok (.isub, 1))) ?_
      obtain ⟨r9, hr9, h⟩ := bp_some h
      refine ai (q_callS (pc := 34) (As := [.int x4, .int 0, .int ((mI m2 1292 a6) - 1)]) (st := []) (st2 := [.int r9]) rfl rfl (by decide +kernel : decode k_P_item.2.1 34 = .ok (.invokestatic 117, 3)) lc_11_117 mo_P_within ⟨Nat.le_of_ble_eq_true rfl, Nat.le_of_ble_eq_true rfl⟩ (Nat.le_of_ble_eq_true rfl) (Nat.le_of_ble_eq_true rfl) (P_within_run hr9)) ?_
      rcases ite_some h with ⟨c10, h⟩ | ⟨c10, h⟩
      · refine ai (r_if_ne_f (pc := 37) 42 (by decide +kernel : decode k_P_item.2.1 37 = .ok (.ifCond .ne (5), 3)) (by decide) c10) ?_
        refine ai (r_iconst (pc := 40) (by decide +kernel : decode k_P_item.2.1 40 = .ok (.iconst (-1), 1)) ic_m1) ?_
        cases h
        exact ⟨r_iret rfl (by decide +kernel : decode k_P_item.2.1 41 = .ok (.ireturn, 1)), hL⟩
      · refine ai (r_if_ne_t (pc := 37) (tgt := 42) (by decide +kernel : decode k_P_item.2.1 37 = .ok (.ifCond .ne (5), 3)) (by decide) c10) ?_
        refine ai (p_aload (pc := 42) (k := 0) (by decide +kernel : decode k_P_item.2.1 42 = .ok (.aload 7, 2)) rfl) ?_
        obtain ⟨a11, o12, h⟩ := gs_some h
        refine ai (p_getr (pc := 44) o12 (by decide +kernel : decode k_P_item.2.1 44 = .ok (.getfield 229, 3)) lg_11_229 t7) ?_
        refine ai (r_iload (pc := 47) (k := 5) (by decide +kernel : decode k_P_item.2.1 47 = .ok (.iload 4, 2)) rfl) ?_
        obtain ⟨t13, h⟩ := gt_some h
        obtain ⟨g14, h⟩ := gd_some h
        refine ai (p_aald (pc := 49) (j := 0) (by decide) (by decide +kernel : decode k_P_item.2.1 49 = .ok (.aaload, 1)) t13 rfl g14) ?_
        refine ai (r_astore (pc := 50) (by decide +kernel : decode k_P_item.2.1 50 = .ok (.astore 8, 2)) (by decide) rfl (ls2 := [(8, va_rf (aR m2 a11 (ix x4))), (7, .ref a6), (0, .ref 0), (1, .int x1), (2, .int x2), (3, .int x3), (4, .int x4), (5, .int x5), (6, .int x6)]) (i := 8)) ?_
        refine ai (r_iload (pc := 52) (k := 8) (by decide +kernel : decode k_P_item.2.1 52 = .ok (.iload 6, 2)) rfl) ?_
        rcases ite_some h with ⟨c15, h⟩ | ⟨c15, h⟩
        · refine ai (r_tableIn (pc := 54) (tgt := 80) (off := 26) (by decide +kernel : decode k_P_item.2.1 54 = .ok (.tableswitch (68) (0) (2) #[26, 56, 62], 26)) (by rw [c15]; decide) (by rw [c15]; decide) (by rw [c15]; decide +kernel) (by decide)) ?_
          obtain ⟨a16, o17, h⟩ := gs_some h
          refine ai (d_aload (pc := 80) (k := 0) o17 (by decide +kernel : decode k_P_item.2.1 80 = .ok (.aload 8, 2)) rfl) ?_
          obtain ⟨t18, h⟩ := gt_some h
          refine ai (r_getI (pc := 82) (by decide +kernel : decode k_P_item.2.1 82 = .ok (.getfield 232, 3)) lg_11_232 (by decide) t18) ?_
          refine ai (r_bipush (pc := 85) (by decide +kernel : decode k_P_item.2.1 85 = .ok (.bipush (34), 2)) (by decide : _ = (34 : Int32))) ?_
          rcases ite_some h with ⟨c19, h⟩ | ⟨c19, h⟩
          · refine ai (r_icmp_ne_f (pc := 87) 94 (by decide +kernel : decode k_P_item.2.1 87 = .ok (.if_icmp .ne (7), 3)) (by decide) c19) ?_
            refine ai (r_iconst (pc := 90) (by decide +kernel : decode k_P_item.2.1 90 = .ok (.iconst 0, 1)) ic_0) ?_
            refine ai (r_goto (pc := 91) (tgt := 109) (by decide +kernel : decode k_P_item.2.1 91 = .ok (.goto (18), 3)) (by decide)) ?_
            cases h
            exact ⟨r_iret rfl (by decide +kernel : decode k_P_item.2.1 109 = .ok (.ireturn, 1)), hL⟩
          · refine ai (r_icmp_ne_t (pc := 87) (tgt := 94) (by decide +kernel : decode k_P_item.2.1 87 = .ok (.if_icmp .ne (7), 3)) (by decide) c19) ?_
            refine ai (d_aload (pc := 94) (k := 0) o17 (by decide +kernel : decode k_P_item.2.1 94 = .ok (.aload 8, 2)) rfl) ?_
            refine ai (r_getI (pc := 96) (by decide +kernel : decode k_P_item.2.1 96 = .ok (.getfield 232, 3)) lg_11_232 (by decide) t18) ?_
            refine ai (r_bipush (pc := 99) (by decide +kernel : decode k_P_item.2.1 99 = .ok (.bipush (36), 2)) (by decide : _ = (36 : Int32))) ?_
            rcases ite_some h with ⟨c20, h⟩ | ⟨c20, h⟩
            · refine ai (r_icmp_ne_f (pc := 101) 108 (by decide +kernel : decode k_P_item.2.1 101 = .ok (.if_icmp .ne (7), 3)) (by decide) c20) ?_
              refine ai (r_iconst (pc := 104) (by decide +kernel : decode k_P_item.2.1 104 = .ok (.iconst 1, 1)) ic_1) ?_
              refine ai (r_goto (pc := 105) (tgt := 109) (by decide +kernel : decode k_P_item.2.1 105 = .ok (.goto (4), 3)) (by decide)) ?_
              cases h
              exact ⟨r_iret rfl (by decide +kernel : decode k_P_item.2.1 109 = .ok (.ireturn, 1)), hL⟩
            · refine ai (r_icmp_ne_t (pc := 101) (tgt := 108) (by decide +kernel : decode k_P_item.2.1 101 = .ok (.if_icmp .ne (7), 3)) (by decide) c20) ?_
              refine ai (r_iconst (pc := 108) (by decide +kernel : decode k_P_item.2.1 108 = .ok (.iconst 2, 1)) ic_2) ?_
              cases h
              exact ⟨r_iret rfl (by decide +kernel : decode k_P_item.2.1 109 = .ok (.ireturn, 1)), hL⟩
        · skip
          rcases ite_some h with ⟨c21, h⟩ | ⟨c21, h⟩
          · refine ai (r_tableIn (pc := 54) (tgt := 110) (off := 56) (by decide +kernel : decode k_P_item.2.1 54 = .ok (.tableswitch (68) (0) (2) #[26, 56, 62], 26)) (by rw [c21]; decide) (by rw [c21]; decide) (by rw [c21]; decide +kernel) (by decide)) ?_
            obtain ⟨a22, o23, h⟩ := gs_some h
            refine ai (d_aload (pc := 110) (k := 0) o23 (by decide +kernel : decode k_P_item.2.1 110 = .ok (.aload 8, 2)) rfl) ?_
            obtain ⟨t24, h⟩ := gt_some h
            refine ai (r_getI (pc := 112) (by decide +kernel : decode k_P_item.2.1 112 = .ok (.getfield 233, 3)) lg_11_233 (by decide) t24) ?_
            cases h
            exact ⟨r_iret rfl (by decide +kernel : decode k_P_item.2.1 115 = .ok (.ireturn, 1)), hL⟩
          · skip
            rcases ite_some h with ⟨c25, h⟩ | ⟨c25, h⟩
            · refine ai (r_tableIn (pc := 54) (tgt := 116) (off := 62) (by decide +kernel : decode k_P_item.2.1 54 = .ok (.tableswitch (68) (0) (2) #[26, 56, 62], 26)) (by rw [c25]; decide) (by rw [c25]; decide) (by rw [c25]; decide +kernel) (by decide)) ?_
              obtain ⟨a26, o27, h⟩ := gs_some h
              refine ai (d_aload (pc := 116) (k := 0) o27 (by decide +kernel : decode k_P_item.2.1 116 = .ok (.aload 8, 2)) rfl) ?_
              obtain ⟨t28, h⟩ := gt_some h
              refine ai (r_getI (pc := 118) (by decide +kernel : decode k_P_item.2.1 118 = .ok (.getfield 236, 3)) lg_11_236 (by decide) t28) ?_
              cases h
              exact ⟨r_iret rfl (by decide +kernel : decode k_P_item.2.1 121 = .ok (.ireturn, 1)), hL⟩
            · skip
              have ho := tab_out (x := x6) 0 3 (by decide) (by decide) (fun k hk => by
                rcases (show k = 0 ∨ k = 1 ∨ k = 2 by omega) with rfl | rfl | rfl
                · exact fun z => c15 (z.trans (by decide))
                · exact fun z => c21 (z.trans (by decide))
                · exact fun z => c25 (z.trans (by decide)))
              refine ai (r_tableOut (pc := 54) (tgt := 122) (by decide +kernel : decode k_P_item.2.1 54 = .ok (.tableswitch (68) (0) (2) #[26, 56, 62], 26)) (by simpa using ho) (by decide)) ?_
              refine ai (r_iconst (pc := 122) (by decide +kernel : decode k_P_item.2.1 122 = .ok (.iconst (-1), 1)) ic_m1) ?_
              cases h
              exact ⟨r_iret rfl (by decide +kernel : decode k_P_item.2.1 123 = .ok (.ireturn, 1)), hL⟩
set_option maxRecDepth 100000 in
set_option maxHeartbeats 4000000 in
theorem P_Scene_marginOf_194_run {x3 : Int32} {m m' : Mem} {r : Int32} (hL : PL m) (h : P_Scene_marginOf_194 x3 m = some (r, m')) : Run k_P_Scene_marginOf 194 [(3, .int x3)] [] m (some (.int r)) m' ∧ PL m' := by
  unfold P_Scene_marginOf_194 at h
  refine ai (r_iload_n (pc := 194) (k := 0) (by decide +kernel : decode k_P_Scene_marginOf.2.1 194 = .ok (.iload_n 3, 1)) rfl rfl) ?_
  refine ai (r_sipush (pc := 195) (by decide +kernel : decode k_P_Scene_marginOf.2.1 195 = .ok (.sipush (-9999), 3)) (by decide : _ = (-9999 : Int32))) ?_
  refine ai (r_sipush (pc := 198) (by decide +kernel : decode k_P_Scene_marginOf.2.1 198 = .ok (.sipush (9999), 3)) (by decide : _ = (9999 : Int32))) ?_
  obtain ⟨r1, hr1, h⟩ := bp_some h
  refine ai (q_callSN (pc := 201) (As := [.int x3, .int (-9999), .int 9999]) (st := []) (st2 := [.int r1]) rfl rfl (by decide +kernel : decode k_P_Scene_marginOf.2.1 201 = .ok (.invokestatic 176, 3)) lc_9_176 mo_P_held ⟨Nat.le_of_ble_eq_true rfl, Nat.le_of_ble_eq_true rfl⟩ (Nat.le_of_ble_eq_true rfl) (Nat.le_of_ble_eq_true rfl) (P_held_run hr1)) ?_
  cases h
  exact ⟨r_iret rfl (by decide +kernel : decode k_P_Scene_marginOf.2.1 204 = .ok (.ireturn, 1)), hL⟩
set_option maxRecDepth 100000 in
set_option maxHeartbeats 4000000 in
theorem P_Scene_marginOf_56_run {x3 : Int32} {m m' : Mem} {r : Int32} (hL : PL m) (h : P_Scene_marginOf_56 x3 m = some (r, m')) : Run k_P_Scene_marginOf 56 [(0, .ref 25), (3, .int x3)] [] m (some (.int r)) m' ∧ PL m' := by
  unfold P_Scene_marginOf_56 at h
  refine ai (r_iload_n (pc := 56) (k := 1) (by decide +kernel : decode k_P_Scene_marginOf.2.1 56 = .ok (.iload_n 3, 1)) rfl rfl) ?_
  refine ai (p_aload_n (pc := 57) (k := 0) (by decide +kernel : decode k_P_Scene_marginOf.2.1 57 = .ok (.aload_n 0, 1)) rfl rfl) ?_
  refine ai (r_getI (pc := 58) (by decide +kernel : decode k_P_Scene_marginOf.2.1 58 = .ok (.getfield 38, 3)) lg_9_38 (by decide) (PC_25 hL).1) ?_
  refine ai (r_iadd (pc := 61) (by decide +kernel : decode k_P_Scene_marginOf.2.1 61 = .ok (.iadd, 1))) ?_
  obtain ⟨v1, hv1, h⟩ := vb_some h
  refine ai (e_istore_n (pc := 62) hv1 (by decide +kernel : decode k_P_Scene_marginOf.2.1 62 = .ok (.istore_n 3, 1)) rfl (by decide) rfl (ls2 := [(3, .int v1), (0, .ref 25)]) (i := 3)) ?_
  refine ai (r_goto (pc := 63) (tgt := 194) (by decide +kernel : decode k_P_Scene_marginOf.2.1 63 = .ok (.goto (131), 3)) (by decide)) ?_
  exact (ai (r_sub [0] rfl) (P_Scene_marginOf_194_run hL h))
set_option maxRecDepth 100000 in
set_option maxHeartbeats 4000000 in
theorem P_Scene_marginOf_185_run {x3 : Int32} {m m' : Mem} {r : Int32} (hL : PL m) (h : P_Scene_marginOf_185 x3 m = some (r, m')) : Run k_P_Scene_marginOf 185 [(3, .int x3)] [] m (some (.int r)) m' ∧ PL m' := by
  unfold P_Scene_marginOf_185 at h
  refine ai (r_goto (pc := 185) (tgt := 194) (by decide +kernel : decode k_P_Scene_marginOf.2.1 185 = .ok (.goto (9), 3)) (by decide)) ?_
  exact (P_Scene_marginOf_194_run hL h)
set_option maxRecDepth 100000 in
set_option maxHeartbeats 4000000 in
theorem P_Scene_marginOf_162_run {k21 : Int32 → Option Nat → Int32 → Int32 → Mem → Option (Int32 × Mem)} {x3 : Int32} {x4 : Option Nat} {x6 : Int32} {s0 : Int32} {m m' : Mem} {r : Int32} (hk21 : ∀ (x3 : Int32) (x4 : Option Nat) (x5 : Int32) (x6 : Int32) (m : Mem) (r : Int32) (m' : Mem), PL m → k21 x3 x4 x5 x6 m = some (r, m') → Run k_P_Scene_marginOf 21 [(0, .ref 25), (3, .int x3), (4, va_rf x4), (5, .int x5), (6, .int x6)] [] m (some (.int r)) m' ∧ PL m') (hL : PL m) (h : P_Scene_marginOf_162 k21 x3 x4 x6 s0 m = some (r, m')) : Run k_P_Scene_marginOf 162 [(0, .ref 25), (3, .int x3), (4, va_rf x4), (6, .int x6)] [.int s0] m (some (.int r)) m' ∧ PL m' := by
  unfold P_Scene_marginOf_162 at h
  refine ai (e_istore (pc := 162) rfl (by decide +kernel : decode k_P_Scene_marginOf.2.1 162 = .ok (.istore 5, 2)) (by decide) (by simp [f1, vrc, vrs, cti, ctr, ctl, ctn, cta]) (ls2 := [(5, .int s0), (0, .ref 25), (3, .int x3), (4, va_rf x4), (6, .int x6)]) (i := 5)) ?_
  refine ai (r_iload (pc := 164) (k := 0) (by decide +kernel : decode k_P_Scene_marginOf.2.1 164 = .ok (.iload 5, 2)) rfl) ?_
  refine ai (r_iconst (pc := 166) (by decide +kernel : decode k_P_Scene_marginOf.2.1 166 = .ok (.iconst (-1), 1)) ic_m1) ?_
  rcases ite_some h with ⟨c1, h⟩ | ⟨c1, h⟩
  · refine ai (r_icmp_eq_t (pc := 167) (tgt := 194) (by decide +kernel : decode k_P_Scene_marginOf.2.1 167 = .ok (.if_icmp .eq (27), 3)) (by decide) c1) ?_
    exact (ai (r_sub [2] rfl) (P_Scene_marginOf_194_run hL h))
  · refine ai (r_icmp_eq_f (pc := 167) 194 (by decide +kernel : decode k_P_Scene_marginOf.2.1 167 = .ok (.if_icmp .eq (27), 3)) (by decide) c1) ?_
    obtain ⟨a2, rfl, hha2⟩ := gs_some h
    have h := hha2
    refine ai (p_aload (pc := 170) (k := 3) (by decide +kernel : decode k_P_Scene_marginOf.2.1 170 = .ok (.aload 4, 2)) rfl) ?_
    obtain ⟨t3, h⟩ := gt_some h
    obtain ⟨a4, o5, h⟩ := gs_some h
    refine ai (p_getr (pc := 172) o5 (by decide +kernel : decode k_P_Scene_marginOf.2.1 172 = .ok (.getfield 163, 3)) lg_9_163 t3) ?_
    refine ai (r_iload (pc := 175) (k := 0) (by decide +kernel : decode k_P_Scene_marginOf.2.1 175 = .ok (.iload 5, 2)) rfl) ?_
    obtain ⟨t6, h⟩ := gt_some h
    obtain ⟨g7, h⟩ := gd_some h
    refine ai (p_iald (pc := 177) (by decide +kernel : decode k_P_Scene_marginOf.2.1 177 = .ok (.iaload, 1)) t6 rfl g7) ?_
    refine ai (p_aload_n (pc := 178) (k := 1) (by decide +kernel : decode k_P_Scene_marginOf.2.1 178 = .ok (.aload_n 0, 1)) rfl rfl) ?_
    refine ai (r_getI (pc := 179) (by decide +kernel : decode k_P_Scene_marginOf.2.1 179 = .ok (.getfield 157, 3)) lg_9_157 (by decide) (PC_25 hL).1) ?_
    rcases ite_some h with ⟨c8, h⟩ | ⟨c8, h⟩
    · refine ai (r_icmp_ne_f (pc := 182) 188 (by decide +kernel : decode k_P_Scene_marginOf.2.1 182 = .ok (.if_icmp .ne (6), 3)) (by decide) c8) ?_
      exact (ai (r_sub [2] rfl) (P_Scene_marginOf_185_run hL h))
    · refine ai (r_icmp_ne_t (pc := 182) (tgt := 188) (by decide +kernel : decode k_P_Scene_marginOf.2.1 182 = .ok (.if_icmp .ne (6), 3)) (by decide) c8) ?_
      obtain ⟨v9, hv9, h⟩ := vb_some h
      refine ai (e_iinc (pc := 188) (k := 4) hv9 ic_1 (by decide +kernel : decode k_P_Scene_marginOf.2.1 188 = .ok (.iinc 6 (1), 3)) rfl (by decide) rfl (ls2 := [(6, .int v9), (5, .int s0), (0, .ref 25), (3, .int x3), (4, .ref a2)]) (i := 6)) ?_
      refine ai (r_goto (pc := 191) (tgt := 21) (by decide +kernel : decode k_P_Scene_marginOf.2.1 191 = .ok (.goto (-170), 3)) (by decide)) ?_
      exact (ai (r_sub [2, 3, 4, 1, 0] rfl) (hk21 x3 (some a2) s0 v9 m _ _ hL h))
set_option maxRecDepth 100000 in
set_option maxHeartbeats 4000000 in
theorem P_Scene_marginOf_148_run {k21 : Int32 → Option Nat → Int32 → Int32 → Mem → Option (Int32 × Mem)} {x3 : Int32} {x4 : Option Nat} {x6 : Int32} {m m' : Mem} {r : Int32} (hk21 : ∀ (x3 : Int32) (x4 : Option Nat) (x5 : Int32) (x6 : Int32) (m : Mem) (r : Int32) (m' : Mem), PL m → k21 x3 x4 x5 x6 m = some (r, m') → Run k_P_Scene_marginOf 21 [(0, .ref 25), (3, .int x3), (4, va_rf x4), (5, .int x5), (6, .int x6)] [] m (some (.int r)) m' ∧ PL m') (hL : PL m) (h : P_Scene_marginOf_148 k21 x3 x4 x6 m = some (r, m')) : Run k_P_Scene_marginOf 148 [(0, .ref 25), (3, .int x3), (4, va_rf x4), (6, .int x6)] [] m (some (.int r)) m' ∧ PL m' := by
  unfold P_Scene_marginOf_148 at h
  refine ai (r_iconst (pc := 148) (by decide +kernel : decode k_P_Scene_marginOf.2.1 148 = .ok (.iconst (-1), 1)) ic_m1) ?_
  refine ai (r_goto (pc := 149) (tgt := 162) (by decide +kernel : decode k_P_Scene_marginOf.2.1 149 = .ok (.goto (13), 3)) (by decide)) ?_
  exact (P_Scene_marginOf_162_run hk21 hL h)
set_option maxRecDepth 100000 in
set_option maxHeartbeats 4000000 in
theorem P_Scene_marginOf_133_run {k21 : Int32 → Option Nat → Int32 → Int32 → Mem → Option (Int32 × Mem)} {x3 : Int32} {x6 : Int32} {x7 : Option Nat} {s0 : Option Nat} {m m' : Mem} {r : Int32} (hk21 : ∀ (x3 : Int32) (x4 : Option Nat) (x5 : Int32) (x6 : Int32) (m : Mem) (r : Int32) (m' : Mem), PL m → k21 x3 x4 x5 x6 m = some (r, m') → Run k_P_Scene_marginOf 21 [(0, .ref 25), (3, .int x3), (4, va_rf x4), (5, .int x5), (6, .int x6)] [] m (some (.int r)) m' ∧ PL m') (hL : PL m) (h : P_Scene_marginOf_133 k21 x3 x6 x7 s0 m = some (r, m')) : Run k_P_Scene_marginOf 133 [(0, .ref 25), (3, .int x3), (6, .int x6), (7, va_rf x7)] [va_rf s0] m (some (.int r)) m' ∧ PL m' := by
  unfold P_Scene_marginOf_133 at h
  refine ai (r_astore (pc := 133) (by decide +kernel : decode k_P_Scene_marginOf.2.1 133 = .ok (.astore 4, 2)) (by decide) rfl (ls2 := [(4, va_rf s0), (0, .ref 25), (3, .int x3), (6, .int x6), (7, va_rf x7)]) (i := 4)) ?_
  refine ai (r_aload (pc := 135) (k := 0) (by decide +kernel : decode k_P_Scene_marginOf.2.1 135 = .ok (.aload 4, 2)) rfl) ?_
  rcases ite_some h with ⟨c1, h⟩ | ⟨c1, h⟩
  · refine ai (d_ifnull_t (pc := 137) (tgt := 148) c1 (by decide +kernel : decode k_P_Scene_marginOf.2.1 137 = .ok (.ifnull (11), 3)) (by decide)) ?_
    exact (ai (r_sub [1, 2, 0, 3] rfl) (P_Scene_marginOf_148_run hk21 hL h))
  · refine ai (d_ifnull_f (pc := 137) c1 (by decide +kernel : decode k_P_Scene_marginOf.2.1 137 = .ok (.ifnull (11), 3))) ?_
    obtain ⟨a2, rfl, hha2⟩ := gs_some h
    have h := hha2
    refine ai (p_aload (pc := 140) (k := 0) (by decide +kernel : decode k_P_Scene_marginOf.2.1 140 = .ok (.aload 4, 2)) rfl) ?_
    obtain ⟨t3, h⟩ := gt_some h
    refine ai (r_getI (pc := 142) (by decide +kernel : decode k_P_Scene_marginOf.2.1 142 = .ok (.getfield 75, 3)) lg_9_75 (by decide) t3) ?_
    rcases ite_some h with ⟨c4, h⟩ | ⟨c4, h⟩
    · refine ai (r_if_ne_f (pc := 145) 152 (by decide +kernel : decode k_P_Scene_marginOf.2.1 145 = .ok (.ifCond .ne (7), 3)) (by decide) c4) ?_
      exact (ai (r_sub [1, 2, 0, 3] rfl) (P_Scene_marginOf_148_run hk21 hL h))
    · refine ai (r_if_ne_t (pc := 145) (tgt := 152) (by decide +kernel : decode k_P_Scene_marginOf.2.1 145 = .ok (.ifCond .ne (7), 3)) (by decide) c4) ?_
      refine ai (p_aload (pc := 152) (k := 0) (by decide +kernel : decode k_P_Scene_marginOf.2.1 152 = .ok (.aload 4, 2)) rfl) ?_
      obtain ⟨a5, rfl, hha5⟩ := gs_some h
      have h := hha5
      refine ai (p_aload (pc := 154) (k := 4) (by decide +kernel : decode k_P_Scene_marginOf.2.1 154 = .ok (.aload 7, 2)) rfl) ?_
      obtain ⟨t6, h⟩ := gt_some h
      refine ai (r_getI (pc := 156) (by decide +kernel : decode k_P_Scene_marginOf.2.1 156 = .ok (.getfield 173, 3)) lg_9_173 (by decide) t6) ?_
      obtain ⟨r7, m8, hr7, h⟩ := bn_some h
      have q9 := P_Text_classEntry_run hL t3 hr7
      have hL := q9.2
      refine ai (q_callV (pc := 159) (As := [.int (mI m 261 a5)]) (st := []) (st2 := [.int r7]) (b := a2) rfl rfl (by decide +kernel : decode k_P_Scene_marginOf.2.1 159 = .ok (.invokevirtual 131, 3)) lc_9_131 mo_P_Text_classEntry ⟨Nat.le_of_ble_eq_true rfl, Nat.le_of_ble_eq_true rfl⟩ (Nat.le_of_ble_eq_true rfl) (Nat.le_of_ble_eq_true rfl) t3 q9.1) ?_
      exact (ai (r_sub [1, 2, 0, 3] rfl) (P_Scene_marginOf_162_run hk21 hL h))
set_option maxRecDepth 100000 in
set_option maxHeartbeats 4000000 in
theorem P_Scene_marginOf_66_run {k21 : Int32 → Option Nat → Int32 → Int32 → Mem → Option (Int32 × Mem)} {x3 : Int32} {x4 : Option Nat} {x5 : Int32} {x6 : Int32} {m m' : Mem} {r : Int32} (hk21 : ∀ (x3 : Int32) (x4 : Option Nat) (x5 : Int32) (x6 : Int32) (m : Mem) (r : Int32) (m' : Mem), PL m → k21 x3 x4 x5 x6 m = some (r, m') → Run k_P_Scene_marginOf 21 [(0, .ref 25), (3, .int x3), (4, va_rf x4), (5, .int x5), (6, .int x6)] [] m (some (.int r)) m' ∧ PL m') (hL : PL m) (h : P_Scene_marginOf_66 k21 x3 x4 x5 x6 m = some (r, m')) : Run k_P_Scene_marginOf 66 [(0, .ref 25), (3, .int x3), (4, va_rf x4), (5, .int x5), (6, .int x6)] [] m (some (.int r)) m' ∧ PL m' := by
  unfold P_Scene_marginOf_66 at h
  obtain ⟨a1, rfl, hha1⟩ := gs_some h
  have h := hha1
  refine ai (p_aload (pc := 66) (k := 2) (by decide +kernel : decode k_P_Scene_marginOf.2.1 66 = .ok (.aload 4, 2)) rfl) ?_
  obtain ⟨t2, h⟩ := gt_some h
  obtain ⟨a3, o4, h⟩ := gs_some h
  refine ai (p_getr (pc := 68) o4 (by decide +kernel : decode k_P_Scene_marginOf.2.1 68 = .ok (.getfield 163, 3)) lg_9_163 t2) ?_
  refine ai (r_iload (pc := 71) (k := 3) (by decide +kernel : decode k_P_Scene_marginOf.2.1 71 = .ok (.iload 5, 2)) rfl) ?_
  refine ai (p_aload_n (pc := 73) (k := 0) (by decide +kernel : decode k_P_Scene_marginOf.2.1 73 = .ok (.aload_n 0, 1)) rfl rfl) ?_
  refine ai (r_getI (pc := 74) (by decide +kernel : decode k_P_Scene_marginOf.2.1 74 = .ok (.getfield 157, 3)) lg_9_157 (by decide) (PC_25 hL).1) ?_
  obtain ⟨t5, h⟩ := gt_some h
  obtain ⟨g6, h⟩ := gd_some h
  obtain ⟨m7, hm7, h⟩ := vb_some h
  have hL : PL m7 := by rw [hm7]; exact hL
  have t8 : mT m7 a1 = 11 := by rw [hm7]; exact t2
  have t9 : mT m7 a3 = 32 := by rw [hm7]; exact t5
  refine ai (p_iast (pc := 77) hm7 (by decide +kernel : decode k_P_Scene_marginOf.2.1 77 = .ok (.iastore, 1)) t5 rfl g6) ?_
  refine ai (p_aload (pc := 78) (k := 2) (by decide +kernel : decode k_P_Scene_marginOf.2.1 78 = .ok (.aload 4, 2)) rfl) ?_
  obtain ⟨a10, o11, h⟩ := gs_some h
  refine ai (p_getr (pc := 80) o11 (by decide +kernel : decode k_P_Scene_marginOf.2.1 80 = .ok (.getfield 154, 3)) lg_9_154 t8) ?_
  refine ai (r_iload (pc := 83) (k := 3) (by decide +kernel : decode k_P_Scene_marginOf.2.1 83 = .ok (.iload 5, 2)) rfl) ?_
  obtain ⟨t12, h⟩ := gt_some h
  obtain ⟨g13, h⟩ := gd_some h
  obtain ⟨a14, o15, h⟩ := gs_some h
  refine ai (p_aaldr (pc := 85) (j := 0) (by decide) o15 (by decide +kernel : decode k_P_Scene_marginOf.2.1 85 = .ok (.aaload, 1)) t12 rfl g13) ?_
  refine ai (p_astore (pc := 86) (by decide +kernel : decode k_P_Scene_marginOf.2.1 86 = .ok (.astore 7, 2)) (by decide) rfl (ls2 := [(7, .ref a14), (0, .ref 25), (3, .int x3), (4, .ref a1), (5, .int x5), (6, .int x6)]) (i := 7)) ?_
  refine ai (r_iload_n (pc := 88) (k := 2) (by decide +kernel : decode k_P_Scene_marginOf.2.1 88 = .ok (.iload_n 3, 1)) rfl rfl) ?_
  refine ai (p_aload_n (pc := 89) (k := 1) (by decide +kernel : decode k_P_Scene_marginOf.2.1 89 = .ok (.aload_n 0, 1)) rfl rfl) ?_
  refine ai (p_getr (pc := 90) (PR_1154_25 hL) (by decide +kernel : decode k_P_Scene_marginOf.2.1 90 = .ok (.getfield 30, 3)) lg_9_30 (PC_25 hL).1) ?_
  refine ai (p_aload (pc := 93) (k := 0) (by decide +kernel : decode k_P_Scene_marginOf.2.1 93 = .ok (.aload 7, 2)) rfl) ?_
  obtain ⟨t16, h⟩ := gt_some h
  refine ai (p_getR (pc := 95) (by decide +kernel : decode k_P_Scene_marginOf.2.1 95 = .ok (.getfield 135, 3)) lg_9_135 t16) ?_
  refine ai (p_aload_n (pc := 98) (k := 1) (by decide +kernel : decode k_P_Scene_marginOf.2.1 98 = .ok (.aload_n 0, 1)) rfl rfl) ?_
  refine ai (p_getr (pc := 99) (PR_1156_25 hL) (by decide +kernel : decode k_P_Scene_marginOf.2.1 99 = .ok (.getfield 15, 3)) lg_9_15 (PC_25 hL).1) ?_
  refine ai (r_iconst (pc := 102) (by decide +kernel : decode k_P_Scene_marginOf.2.1 102 = .ok (.iconst 0, 1)) ic_0) ?_
  obtain ⟨r17, m18, hr17, h⟩ := bn_some h
  have q19 := P_Formula_result_run hL hr17
  have c20 := (PC_1 hL).1
  have hL := q19.2
  refine ai (q_callV (pc := 103) (As := [va_rf (mR m7 262 a14), .ref 27, .int 0]) (st := [.int x3]) (st2 := [.int r17, .int x3]) (b := 1) (by simp [lv_args, vrc, vrs, cti, ctr, ctl, ctn, cta]) rfl (by decide +kernel : decode k_P_Scene_marginOf.2.1 103 = .ok (.invokevirtual 138, 3)) lc_9_138 mo_P_Formula_result ⟨Nat.le_of_ble_eq_true rfl, Nat.le_of_ble_eq_true rfl⟩ (by simp [lg_sl, vrc, vrs, cti, ctr, ctl, ctn, cta, k_P_Formula_result]) (Nat.le_of_ble_eq_true rfl) c20 q19.1) ?_
  refine ai (r_iadd (pc := 106) (by decide +kernel : decode k_P_Scene_marginOf.2.1 106 = .ok (.iadd, 1))) ?_
  obtain ⟨v21, hv21, h⟩ := vb_some h
  refine ai (e_istore_n (pc := 107) hv21 (by decide +kernel : decode k_P_Scene_marginOf.2.1 107 = .ok (.istore_n 3, 1)) rfl (by decide) rfl (ls2 := [(3, .int v21), (7, .ref a14), (0, .ref 25), (4, .ref a1), (5, .int x5), (6, .int x6)]) (i := 3)) ?_
  refine ai (p_aload (pc := 108) (k := 1) (by decide +kernel : decode k_P_Scene_marginOf.2.1 108 = .ok (.aload 7, 2)) rfl) ?_
  obtain ⟨t22, h⟩ := gt_some h
  refine ai (r_getI (pc := 110) (by decide +kernel : decode k_P_Scene_marginOf.2.1 110 = .ok (.getfield 166, 3)) lg_9_166 (by decide) t22) ?_
  refine ai (r_iconst (pc := 113) (by decide +kernel : decode k_P_Scene_marginOf.2.1 113 = .ok (.iconst (-1), 1)) ic_m1) ?_
  rcases ite_some h with ⟨c23, h⟩ | ⟨c23, h⟩
  · refine ai (r_icmp_ne_f (pc := 114) 121 (by decide +kernel : decode k_P_Scene_marginOf.2.1 114 = .ok (.if_icmp .ne (7), 3)) (by decide) c23) ?_
    refine ai (r_null (pc := 117) (by decide +kernel : decode k_P_Scene_marginOf.2.1 117 = .ok (.aconst_null, 1))) ?_
    refine ai (r_goto (pc := 118) (tgt := 133) (by decide +kernel : decode k_P_Scene_marginOf.2.1 118 = .ok (.goto (15), 3)) (by decide)) ?_
    exact (ai (r_sub [2, 0, 5, 1] rfl) (P_Scene_marginOf_133_run hk21 hL h))
  · refine ai (r_icmp_ne_t (pc := 114) (tgt := 121) (by decide +kernel : decode k_P_Scene_marginOf.2.1 114 = .ok (.if_icmp .ne (7), 3)) (by decide) c23) ?_
    refine ai (p_aload_n (pc := 121) (k := 2) (by decide +kernel : decode k_P_Scene_marginOf.2.1 121 = .ok (.aload_n 0, 1)) rfl rfl) ?_
    refine ai (p_getr (pc := 122) (PR_1153_25 hL) (by decide +kernel : decode k_P_Scene_marginOf.2.1 122 = .ok (.getfield 26, 3)) lg_9_26 (PC_25 hL).1) ?_
    refine ai (p_aload (pc := 125) (k := 1) (by decide +kernel : decode k_P_Scene_marginOf.2.1 125 = .ok (.aload 7, 2)) rfl) ?_
    refine ai (r_getI (pc := 127) (by decide +kernel : decode k_P_Scene_marginOf.2.1 127 = .ok (.getfield 166, 3)) lg_9_166 (by decide) t22) ?_
    obtain ⟨r24, m25, hr24, h⟩ := bn_some h
    have q26 := P_Ledger_awardNamed_run hL hr24
    have c27 := (PC_13 hL).1
    have hL := q26.2
    refine ai (q_callV (pc := 130) (As := [.int (mI m18 260 a14)]) (st := []) (st2 := [va_rf r24]) (b := 13) rfl rfl (by decide +kernel : decode k_P_Scene_marginOf.2.1 130 = .ok (.invokevirtual 169, 3)) lc_9_169 mo_P_Ledger_awardNamed ⟨Nat.le_of_ble_eq_true rfl, Nat.le_of_ble_eq_true rfl⟩ (Nat.le_of_ble_eq_true rfl) (Nat.le_of_ble_eq_true rfl) c27 q26.1) ?_
    exact (ai (r_sub [2, 0, 5, 1] rfl) (P_Scene_marginOf_133_run hk21 hL h))
set_option maxRecDepth 100000 in
set_option maxHeartbeats 4000000 in
theorem P_Scene_marginOf_21_run {n : Nat} {x3 : Int32} {x4 : Option Nat} {x5 : Int32} {x6 : Int32} {m m' : Mem} {r : Int32} (hL : PL m) (h : P_Scene_marginOf_21 n x3 x4 x5 x6 m = some (r, m')) : Run k_P_Scene_marginOf 21 [(0, .ref 25), (3, .int x3), (4, va_rf x4), (5, .int x5), (6, .int x6)] [] m (some (.int r)) m' ∧ PL m' := by
  induction n generalizing x3 x4 x5 x6 m r m' with
  | zero => exact absurd h (by simp [P_Scene_marginOf_21])
  | succ n ih =>
    rw [P_Scene_marginOf_21.eq_2] at h
    refine ai (r_iload (pc := 21) (k := 4) (by decide +kernel : decode k_P_Scene_marginOf.2.1 21 = .ok (.iload 6, 2)) rfl) ?_
    refine ai (r_sipush (pc := 23) (by decide +kernel : decode k_P_Scene_marginOf.2.1 23 = .ok (.sipush (1441), 3)) (by decide : _ = (1441 : Int32))) ?_
    rcases ite_some h with ⟨c1, h⟩ | ⟨c1, h⟩
    · refine ai (r_icmp_ge_t (pc := 26) (tgt := 194) (by decide +kernel : decode k_P_Scene_marginOf.2.1 26 = .ok (.if_icmp .ge (168), 3)) (by decide) c1) ?_
      exact (ai (r_sub [1] rfl) (P_Scene_marginOf_194_run hL h))
    · refine ai (r_icmp_ge_f (pc := 26) 194 (by decide +kernel : decode k_P_Scene_marginOf.2.1 26 = .ok (.if_icmp .ge (168), 3)) (by decide) c1) ?_
      refine ai (r_aload (pc := 29) (k := 2) (by decide +kernel : decode k_P_Scene_marginOf.2.1 29 = .ok (.aload 4, 2)) rfl) ?_
      refine ai (p_aload_n (pc := 31) (k := 0) (by decide +kernel : decode k_P_Scene_marginOf.2.1 31 = .ok (.aload_n 0, 1)) rfl rfl) ?_
      refine ai (p_getR (pc := 32) (by decide +kernel : decode k_P_Scene_marginOf.2.1 32 = .ok (.getfield 34, 3)) lg_9_34 (PC_25 hL).1) ?_
      rcases ite_some h with ⟨c2, h⟩ | ⟨c2, h⟩
      · refine ai (r_acmp_ne_f (pc := 35) (rx := x4) (ry := mR m 1158 25) 66 (by decide +kernel : decode k_P_Scene_marginOf.2.1 35 = .ok (.if_acmp .ne (31), 3)) (by decide) c2) ?_
        obtain ⟨a3, rfl, hha3⟩ := gs_some h
        have h := hha3
        refine ai (p_aload (pc := 38) (k := 2) (by decide +kernel : decode k_P_Scene_marginOf.2.1 38 = .ok (.aload 4, 2)) rfl) ?_
        obtain ⟨t4, h⟩ := gt_some h
        obtain ⟨a5, o6, h⟩ := gs_some h
        refine ai (p_getr (pc := 40) o6 (by decide +kernel : decode k_P_Scene_marginOf.2.1 40 = .ok (.getfield 160, 3)) lg_9_160 t4) ?_
        refine ai (r_iload (pc := 43) (k := 3) (by decide +kernel : decode k_P_Scene_marginOf.2.1 43 = .ok (.iload 5, 2)) rfl) ?_
        obtain ⟨t7, h⟩ := gt_some h
        obtain ⟨g8, h⟩ := gd_some h
        obtain ⟨a9, o10, h⟩ := gs_some h
        refine ai (p_aaldr (pc := 45) (j := 0) (by decide) o10 (by decide +kernel : decode k_P_Scene_marginOf.2.1 45 = .ok (.aaload, 1)) t7 rfl g8) ?_
        obtain ⟨t11, h⟩ := gt_some h
        refine ai (r_getI (pc := 46) (by decide +kernel : decode k_P_Scene_marginOf.2.1 46 = .ok (.getfield 124, 3)) lg_9_124 (by decide) t11) ?_
        refine ai (p_aload_n (pc := 49) (k := 0) (by decide +kernel : decode k_P_Scene_marginOf.2.1 49 = .ok (.aload_n 0, 1)) rfl rfl) ?_
        refine ai (r_getI (pc := 50) (by decide +kernel : decode k_P_Scene_marginOf.2.1 50 = .ok (.getfield 18, 3)) lg_9_18 (by decide) (PC_25 hL).1) ?_
        rcases ite_some h with ⟨c12, h⟩ | ⟨c12, h⟩
        · refine ai (r_icmp_ne_f (pc := 53) 66 (by decide +kernel : decode k_P_Scene_marginOf.2.1 53 = .ok (.if_icmp .ne (13), 3)) (by decide) c12) ?_
          exact (ai (r_sub [0, 1] rfl) (P_Scene_marginOf_56_run hL h))
        · refine ai (r_icmp_ne_t (pc := 53) (tgt := 66) (by decide +kernel : decode k_P_Scene_marginOf.2.1 53 = .ok (.if_icmp .ne (13), 3)) (by decide) c12) ?_
          exact (P_Scene_marginOf_66_run (fun _ _ _ _ _ _ _ q1 q3 => ih q1 q3) hL h)
      · refine ai (r_acmp_ne_t (pc := 35) (tgt := 66) (rx := x4) (ry := mR m 1158 25) (by decide +kernel : decode k_P_Scene_marginOf.2.1 35 = .ok (.if_acmp .ne (31), 3)) (by decide) c2) ?_
        exact (P_Scene_marginOf_66_run (fun _ _ _ _ _ _ _ q1 q3 => ih q1 q3) hL h)
set_option maxRecDepth 100000 in
set_option maxHeartbeats 4000000 in
theorem P_Scene_marginOf_run {x1 : Option Nat} {x2 : Int32} {m m' : Mem} {r : Int32} (hL : PL m) (h : P_Scene_marginOf x1 x2 m = some (r, m')) : Run k_P_Scene_marginOf 0 [(0, .ref 25), (1, va_rf x1), (2, .int x2)] [] m (some (.int r)) m' ∧ PL m' := by
  unfold P_Scene_marginOf at h
  refine ai (p_aload_n (pc := 0) (k := 0) (by decide +kernel : decode k_P_Scene_marginOf.2.1 0 = .ok (.aload_n 0, 1)) rfl rfl) ?_
  refine ai (r_dup (pc := 1) (by decide +kernel : decode k_P_Scene_marginOf.2.1 1 = .ok (.dup, 1)) (rfl)) ?_
  refine ai (r_getI (pc := 2) (by decide +kernel : decode k_P_Scene_marginOf.2.1 2 = .ok (.getfield 157, 3)) lg_9_157 (by decide) (PC_25 hL).1) ?_
  refine ai (r_iconst (pc := 5) (by decide +kernel : decode k_P_Scene_marginOf.2.1 5 = .ok (.iconst 1, 1)) ic_1) ?_
  refine ai (r_iadd (pc := 6) (by decide +kernel : decode k_P_Scene_marginOf.2.1 6 = .ok (.iadd, 1))) ?_
  have c1 := (PC_25 hL).1
  obtain ⟨m2, hm2, h⟩ := vb_some h
  have hL : PL m2 := by rw [hm2]; exact hL
  refine ai (p_putI (pc := 7) hm2 (by decide +kernel : decode k_P_Scene_marginOf.2.1 7 = .ok (.putfield 157, 3)) lp_9_157 c1) ?_
  refine ai (r_iconst (pc := 10) (by decide +kernel : decode k_P_Scene_marginOf.2.1 10 = .ok (.iconst 0, 1)) ic_0) ?_
  refine ai (e_istore_n (pc := 11) rfl (by decide +kernel : decode k_P_Scene_marginOf.2.1 11 = .ok (.istore_n 3, 1)) rfl (by decide) rfl (ls2 := [(3, .int 0), (0, .ref 25), (1, va_rf x1), (2, .int x2)]) (i := 3)) ?_
  refine ai (r_aload_n (pc := 12) (k := 2) (by decide +kernel : decode k_P_Scene_marginOf.2.1 12 = .ok (.aload_n 1, 1)) rfl rfl) ?_
  refine ai (r_astore (pc := 13) (by decide +kernel : decode k_P_Scene_marginOf.2.1 13 = .ok (.astore 4, 2)) (by decide) rfl (ls2 := [(4, va_rf x1), (3, .int 0), (0, .ref 25), (1, va_rf x1), (2, .int x2)]) (i := 4)) ?_
  refine ai (r_iload_n (pc := 15) (k := 4) (by decide +kernel : decode k_P_Scene_marginOf.2.1 15 = .ok (.iload_n 2, 1)) rfl rfl) ?_
  refine ai (e_istore (pc := 16) rfl (by decide +kernel : decode k_P_Scene_marginOf.2.1 16 = .ok (.istore 5, 2)) (by decide) (by simp [f1, vrc, vrs, cti, ctr, ctl, ctn, cta]) (ls2 := [(5, .int x2), (4, va_rf x1), (3, .int 0), (0, .ref 25), (1, va_rf x1), (2, .int x2)]) (i := 5)) ?_
  refine ai (r_iconst (pc := 18) (by decide +kernel : decode k_P_Scene_marginOf.2.1 18 = .ok (.iconst 0, 1)) ic_0) ?_
  refine ai (e_istore (pc := 19) rfl (by decide +kernel : decode k_P_Scene_marginOf.2.1 19 = .ok (.istore 6, 2)) (by decide) rfl (ls2 := [(6, .int 0), (5, .int x2), (4, va_rf x1), (3, .int 0), (0, .ref 25), (1, va_rf x1), (2, .int x2)]) (i := 6)) ?_
  exact (ai (r_sub [4, 3, 2, 1, 0] rfl) (P_Scene_marginOf_21_run hL h))
set_option maxRecDepth 100000 in
set_option maxHeartbeats 4000000 in
theorem P_margin_run {x1 : Int32} {x2 : Int32} {x3 : Int32} {x4 : Int32} {x5 : Int32} {m m' : Mem} {r : Int32} (hL : PL m) (h : P_margin x1 x2 x3 x4 x5 m = some (r, m')) : Run k_P_margin 0 [(0, .ref 0), (1, .int x1), (2, .int x2), (3, .int x3), (4, .int x4), (5, .int x5)] [] m (some (.int r)) m' ∧ PL m' := by
  unfold P_margin at h
  refine ai (p_aload_n (pc := 0) (k := 0) (by decide +kernel : decode k_P_margin.2.1 0 = .ok (.aload_n 0, 1)) rfl rfl) ?_
  refine ai (r_iload_n (pc := 1) (k := 1) (by decide +kernel : decode k_P_margin.2.1 1 = .ok (.iload_n 1, 1)) rfl rfl) ?_
  refine ai (r_iload_n (pc := 2) (k := 3) (by decide +kernel : decode k_P_margin.2.1 2 = .ok (.iload_n 3, 1)) rfl rfl) ?_
  refine ai (r_iload (pc := 3) (k := 4) (by decide +kernel : decode k_P_margin.2.1 3 = .ok (.iload 4, 2)) rfl) ?_
  refine ai (r_iload (pc := 5) (k := 5) (by decide +kernel : decode k_P_margin.2.1 5 = .ok (.iload 5, 2)) rfl) ?_
  obtain ⟨r1, m2, hr1, h⟩ := bn_some h
  have q3 := P_opened_run hL hr1
  have c4 := (PC_0 hL).1
  have hL := q3.2
  refine ai (q_callV (pc := 7) (As := [.int x1, .int x3, .int x4, .int x5]) (st := []) (st2 := [va_rf r1]) (b := 0) rfl rfl (by decide +kernel : decode k_P_margin.2.1 7 = .ok (.invokevirtual 202, 3)) lc_11_202 mo_P_opened ⟨Nat.le_of_ble_eq_true rfl, Nat.le_of_ble_eq_true rfl⟩ (Nat.le_of_ble_eq_true rfl) (Nat.le_of_ble_eq_true rfl) c4 q3.1) ?_
  refine ai (r_astore (pc := 10) (by decide +kernel : decode k_P_margin.2.1 10 = .ok (.astore 6, 2)) (by decide) rfl (ls2 := [(6, va_rf r1), (0, .ref 0), (1, .int x1), (2, .int x2), (3, .int x3), (4, .int x4), (5, .int x5)]) (i := 6)) ?_
  refine ai (r_aload (pc := 12) (k := 0) (by decide +kernel : decode k_P_margin.2.1 12 = .ok (.aload 6, 2)) rfl) ?_
  rcases ite_some h with ⟨c5, h⟩ | ⟨c5, h⟩
  · refine ai (d_ifnull_t (pc := 14) (tgt := 25) c5 (by decide +kernel : decode k_P_margin.2.1 14 = .ok (.ifnull (11), 3)) (by decide)) ?_
    refine ai (r_ldc (pc := 25) (by decide +kernel : decode k_P_margin.2.1 25 = .ok (.ldc 239, 2)) lk_11_239) ?_
    cases h
    exact ⟨r_iret rfl (by decide +kernel : decode k_P_margin.2.1 27 = .ok (.ireturn, 1)), hL⟩
  · refine ai (d_ifnull_f (pc := 14) c5 (by decide +kernel : decode k_P_margin.2.1 14 = .ok (.ifnull (11), 3))) ?_
    obtain ⟨a6, rfl, hha6⟩ := gs_some h
    have h := hha6
    refine ai (p_aload (pc := 17) (k := 0) (by decide +kernel : decode k_P_margin.2.1 17 = .ok (.aload 6, 2)) rfl) ?_
    obtain ⟨t7, h⟩ := gt_some h
    refine ai (r_getI (pc := 19) (by decide +kernel : decode k_P_margin.2.1 19 = .ok (.getfield 206, 3)) lg_11_206 (by decide) t7) ?_
    rcases ite_some h with ⟨c8, h⟩ | ⟨c8, h⟩
    · refine ai (r_if_ne_f (pc := 22) 28 (by decide +kernel : decode k_P_margin.2.1 22 = .ok (.ifCond .ne (6), 3)) (by decide) c8) ?_
      refine ai (r_ldc (pc := 25) (by decide +kernel : decode k_P_margin.2.1 25 = .ok (.ldc 239, 2)) lk_11_239) ?_
      cases h
      exact ⟨r_iret rfl (by decide +kernel : decode k_P_margin.2.1 27 = .ok (.ireturn, 1)), hL⟩
    · refine ai (r_if_ne_t (pc := 22) (tgt := 28) (by decide +kernel : decode k_P_margin.2.1 22 = .ok (.ifCond .ne (6), 3)) (by decide) c8) ?_
      refine ai (p_aload (pc := 28) (k := 0) (by decide +kernel : decode k_P_margin.2.1 28 = .ok (.aload 6, 2)) rfl) ?_
      refine ai (r_iload_n (pc := 30) (k := 3) (by decide +kernel : decode k_P_margin.2.1 30 = .ok (.iload_n 2, 1)) rfl rfl) ?_
      obtain ⟨r9, m10, hr9, h⟩ := bn_some h
      have q11 := P_Text_classEntry_run hL t7 hr9
      have hL := q11.2
      refine ai (q_callV (pc := 31) (As := [.int x2]) (st := []) (st2 := [.int r9]) (b := a6) rfl rfl (by decide +kernel : decode k_P_margin.2.1 31 = .ok (.invokevirtual 240, 3)) lc_11_240 mo_P_Text_classEntry ⟨Nat.le_of_ble_eq_true rfl, Nat.le_of_ble_eq_true rfl⟩ (Nat.le_of_ble_eq_true rfl) (Nat.le_of_ble_eq_true rfl) t7 q11.1) ?_
      refine ai (e_istore (pc := 34) rfl (by decide +kernel : decode k_P_margin.2.1 34 = .ok (.istore 7, 2)) (by decide) rfl (ls2 := [(7, .int r9), (6, .ref a6), (0, .ref 0), (1, .int x1), (2, .int x2), (3, .int x3), (4, .int x4), (5, .int x5)]) (i := 7)) ?_
      refine ai (r_iload (pc := 36) (k := 0) (by decide +kernel : decode k_P_margin.2.1 36 = .ok (.iload 7, 2)) rfl) ?_
      refine ai (r_iconst (pc := 38) (by decide +kernel : decode k_P_margin.2.1 38 = .ok (.iconst (-1), 1)) ic_m1) ?_
      rcases ite_some h with ⟨c12, h⟩ | ⟨c12, h⟩
      · refine ai (r_icmp_ne_f (pc := 39) 47 (by decide +kernel : decode k_P_margin.2.1 39 = .ok (.if_icmp .ne (8), 3)) (by decide) c12) ?_
        refine ai (r_ldc (pc := 42) (by decide +kernel : decode k_P_margin.2.1 42 = .ok (.ldc 239, 2)) lk_11_239) ?_
        refine ai (r_goto (pc := 44) (tgt := 58) (by decide +kernel : decode k_P_margin.2.1 44 = .ok (.goto (14), 3)) (by decide)) ?_
        cases h
        exact ⟨r_iret rfl (by decide +kernel : decode k_P_margin.2.1 58 = .ok (.ireturn, 1)), hL⟩
      · refine ai (r_icmp_ne_t (pc := 39) (tgt := 47) (by decide +kernel : decode k_P_margin.2.1 39 = .ok (.if_icmp .ne (8), 3)) (by decide) c12) ?_
        refine ai (p_aload_n (pc := 47) (k := 2) (by decide +kernel : decode k_P_margin.2.1 47 = .ok (.aload_n 0, 1)) rfl rfl) ?_
        refine ai (p_getr (pc := 48) (PR_1412_0 hL) (by decide +kernel : decode k_P_margin.2.1 48 = .ok (.getfield 51, 3)) lg_11_51 (PC_0 hL).1) ?_
        refine ai (p_aload (pc := 51) (k := 1) (by decide +kernel : decode k_P_margin.2.1 51 = .ok (.aload 6, 2)) rfl) ?_
        refine ai (r_iload (pc := 53) (k := 0) (by decide +kernel : decode k_P_margin.2.1 53 = .ok (.iload 7, 2)) rfl) ?_
        obtain ⟨r13, m14, hr13, h⟩ := bn_some h
        have q15 := P_Scene_marginOf_run hL hr13
        have c16 := (PC_25 hL).1
        have hL := q15.2
        refine ai (q_callV (pc := 55) (As := [.ref a6, .int r9]) (st := []) (st2 := [.int r13]) (b := 25) rfl rfl (by decide +kernel : decode k_P_margin.2.1 55 = .ok (.invokevirtual 244, 3)) lc_11_244 mo_P_Scene_marginOf ⟨Nat.le_of_ble_eq_true rfl, Nat.le_of_ble_eq_true rfl⟩ (Nat.le_of_ble_eq_true rfl) (Nat.le_of_ble_eq_true rfl) c16 q15.1) ?_
        cases h
        exact ⟨r_iret rfl (by decide +kernel : decode k_P_margin.2.1 58 = .ok (.ireturn, 1)), hL⟩
set_option maxRecDepth 100000 in
set_option maxHeartbeats 4000000 in
theorem P_isHalfOf_run {x1 : Int32} {x2 : Int32} {x3 : Int32} {x4 : Int32} {m m' : Mem} {r : Int32} (hL : PL m) (h : P_isHalfOf x1 x2 x3 x4 m = some (r, m')) : Run k_P_isHalfOf 0 [(0, .ref 0), (1, .int x1), (2, .int x2), (3, .int x3), (4, .int x4)] [] m (some (.int r)) m' ∧ PL m' := by
  unfold P_isHalfOf at h
  refine ai (p_aload_n (pc := 0) (k := 0) (by decide +kernel : decode k_P_isHalfOf.2.1 0 = .ok (.aload_n 0, 1)) rfl rfl) ?_
  refine ai (p_getr (pc := 1) (PR_1408_0 hL) (by decide +kernel : decode k_P_isHalfOf.2.1 1 = .ok (.getfield 19, 3)) lg_11_19 (PC_0 hL).1) ?_
  refine ai (r_iload_n (pc := 4) (k := 1) (by decide +kernel : decode k_P_isHalfOf.2.1 4 = .ok (.iload_n 1, 1)) rfl rfl) ?_
  obtain ⟨r1, m2, hr1, h⟩ := bn_some h
  have q3 := P_Land_hasPerson_run hL hr1
  have c4 := (PC_5 hL).1
  have hL := q3.2
  refine ai (q_callV (pc := 5) (As := [.int x1]) (st := []) (st2 := [.int r1]) (b := 5) rfl rfl (by decide +kernel : decode k_P_isHalfOf.2.1 5 = .ok (.invokevirtual 152, 3)) lc_11_152 mo_P_Land_hasPerson ⟨Nat.le_of_ble_eq_true rfl, Nat.le_of_ble_eq_true rfl⟩ (Nat.le_of_ble_eq_true rfl) (Nat.le_of_ble_eq_true rfl) c4 q3.1) ?_
  rcases ite_some h with ⟨c5, h⟩ | ⟨c5, h⟩
  · refine ai (r_if_eq_t (pc := 8) (tgt := 44) (by decide +kernel : decode k_P_isHalfOf.2.1 8 = .ok (.ifCond .eq (36), 3)) (by decide) c5) ?_
    refine ai (r_iconst (pc := 44) (by decide +kernel : decode k_P_isHalfOf.2.1 44 = .ok (.iconst 0, 1)) ic_0) ?_
    cases h
    exact ⟨r_zret (by decide) rfl (by decide +kernel : decode k_P_isHalfOf.2.1 45 = .ok (.ireturn, 1)), hL⟩
  · refine ai (r_if_eq_f (pc := 8) 44 (by decide +kernel : decode k_P_isHalfOf.2.1 8 = .ok (.ifCond .eq (36), 3)) (by decide) c5) ?_
    refine ai (r_iload_n (pc := 11) (k := 2) (by decide +kernel : decode k_P_isHalfOf.2.1 11 = .ok (.iload_n 2, 1)) rfl rfl) ?_
    obtain ⟨r6, hr6, h⟩ := bp_some h
    refine ai (q_callS (pc := 12) (As := [.int x2]) (st := []) (st2 := [.int r6]) rfl rfl (by decide +kernel : decode k_P_isHalfOf.2.1 12 = .ok (.invokestatic 149, 3)) lc_11_149 mo_P_isDay ⟨Nat.le_of_ble_eq_true rfl, Nat.le_of_ble_eq_true rfl⟩ (Nat.le_of_ble_eq_true rfl) (Nat.le_of_ble_eq_true rfl) (P_isDay_run hr6)) ?_
    rcases ite_some h with ⟨c7, h⟩ | ⟨c7, h⟩
    · refine ai (r_if_eq_t (pc := 15) (tgt := 44) (by decide +kernel : decode k_P_isHalfOf.2.1 15 = .ok (.ifCond .eq (29), 3)) (by decide) c7) ?_
      refine ai (r_iconst (pc := 44) (by decide +kernel : decode k_P_isHalfOf.2.1 44 = .ok (.iconst 0, 1)) ic_0) ?_
      cases h
      exact ⟨r_zret (by decide) rfl (by decide +kernel : decode k_P_isHalfOf.2.1 45 = .ok (.ireturn, 1)), hL⟩
    · refine ai (r_if_eq_f (pc := 15) 44 (by decide +kernel : decode k_P_isHalfOf.2.1 15 = .ok (.ifCond .eq (29), 3)) (by decide) c7) ?_
      refine ai (r_iload_n (pc := 18) (k := 3) (by decide +kernel : decode k_P_isHalfOf.2.1 18 = .ok (.iload_n 3, 1)) rfl rfl) ?_
      refine ai (r_iconst (pc := 19) (by decide +kernel : decode k_P_isHalfOf.2.1 19 = .ok (.iconst 0, 1)) ic_0) ?_
      refine ai (r_bipush (pc := 20) (by decide +kernel : decode k_P_isHalfOf.2.1 20 = .ok (.bipush (47), 2)) (by decide : _ = (47 : Int32))) ?_
      obtain ⟨r8, hr8, h⟩ := bp_some h
      refine ai (q_callS (pc := 22) (As := [.int x3, .int 0, .int 47]) (st := []) (st2 := [.int r8]) rfl rfl (by decide +kernel : decode k_P_isHalfOf.2.1 22 = .ok (.invokestatic 117, 3)) lc_11_117 mo_P_within ⟨Nat.le_of_ble_eq_true rfl, Nat.le_of_ble_eq_true rfl⟩ (Nat.le_of_ble_eq_true rfl) (Nat.le_of_ble_eq_true rfl) (P_within_run hr8)) ?_
      rcases ite_some h with ⟨c9, h⟩ | ⟨c9, h⟩
      · refine ai (r_if_eq_t (pc := 25) (tgt := 44) (by decide +kernel : decode k_P_isHalfOf.2.1 25 = .ok (.ifCond .eq (19), 3)) (by decide) c9) ?_
        refine ai (r_iconst (pc := 44) (by decide +kernel : decode k_P_isHalfOf.2.1 44 = .ok (.iconst 0, 1)) ic_0) ?_
        cases h
        exact ⟨r_zret (by decide) rfl (by decide +kernel : decode k_P_isHalfOf.2.1 45 = .ok (.ireturn, 1)), hL⟩
      · refine ai (r_if_eq_f (pc := 25) 44 (by decide +kernel : decode k_P_isHalfOf.2.1 25 = .ok (.ifCond .eq (19), 3)) (by decide) c9) ?_
        refine ai (p_aload_n (pc := 28) (k := 0) (by decide +kernel : decode k_P_isHalfOf.2.1 28 = .ok (.aload_n 0, 1)) rfl rfl) ?_
        refine ai (p_getr (pc := 29) (PR_1409_0 hL) (by decide +kernel : decode k_P_isHalfOf.2.1 29 = .ok (.getfield 26, 3)) lg_11_26 (PC_0 hL).1) ?_
        refine ai (r_iload (pc := 32) (k := 4) (by decide +kernel : decode k_P_isHalfOf.2.1 32 = .ok (.iload 4, 2)) rfl) ?_
        obtain ⟨r10, m11, hr10, h⟩ := bn_some h
        have q12 := P_Ledger_canKnow_run hL hr10
        have c13 := (PC_13 hL).1
        have hL := q12.2
        refine ai (q_callV (pc := 34) (As := [.int x4]) (st := []) (st2 := [.int r10]) (b := 13) rfl rfl (by decide +kernel : decode k_P_isHalfOf.2.1 34 = .ok (.invokevirtual 189, 3)) lc_11_189 mo_P_Ledger_canKnow ⟨Nat.le_of_ble_eq_true rfl, Nat.le_of_ble_eq_true rfl⟩ (Nat.le_of_ble_eq_true rfl) (Nat.le_of_ble_eq_true rfl) c13 q12.1) ?_
        rcases ite_some h with ⟨c14, h⟩ | ⟨c14, h⟩
        · refine ai (r_if_eq_t (pc := 37) (tgt := 44) (by decide +kernel : decode k_P_isHalfOf.2.1 37 = .ok (.ifCond .eq (7), 3)) (by decide) c14) ?_
          refine ai (r_iconst (pc := 44) (by decide +kernel : decode k_P_isHalfOf.2.1 44 = .ok (.iconst 0, 1)) ic_0) ?_
          cases h
          exact ⟨r_zret (by decide) rfl (by decide +kernel : decode k_P_isHalfOf.2.1 45 = .ok (.ireturn, 1)), hL⟩
        · refine ai (r_if_eq_f (pc := 37) 44 (by decide +kernel : decode k_P_isHalfOf.2.1 37 = .ok (.ifCond .eq (7), 3)) (by decide) c14) ?_
          refine ai (r_iconst (pc := 40) (by decide +kernel : decode k_P_isHalfOf.2.1 40 = .ok (.iconst 1, 1)) ic_1) ?_
          refine ai (r_goto (pc := 41) (tgt := 45) (by decide +kernel : decode k_P_isHalfOf.2.1 41 = .ok (.goto (4), 3)) (by decide)) ?_
          cases h
          exact ⟨r_zret (by decide) rfl (by decide +kernel : decode k_P_isHalfOf.2.1 45 = .ok (.ireturn, 1)), hL⟩
set_option maxRecDepth 100000 in
set_option maxHeartbeats 4000000 in
theorem P_Reckoning_load_112_run {k42 : Int32 → Int32 → Mem → Option (Unit × Mem)} {x3 : Int32} {x4 : Int32} {m m' : Mem} {r : Unit} (hk42 : ∀ (x3 : Int32) (x4 : Int32) (m : Mem) (r : Unit) (m' : Mem), PL m → k42 x3 x4 m = some (r, m') → Run k_P_Reckoning_load 42 [(0, .ref 28), (3, .int x3), (4, .int x4)] [] m none m' ∧ PL m') (hL : PL m) (h : P_Reckoning_load_112 k42 x3 x4 m = some (r, m')) : Run k_P_Reckoning_load 112 [(0, .ref 28), (3, .int x3), (4, .int x4)] [] m none m' ∧ PL m' := by
  unfold P_Reckoning_load_112 at h
  obtain ⟨v1, hv1, h⟩ := vb_some h
  refine ai (e_iinc (pc := 112) (k := 2) hv1 ic_1 (by decide +kernel : decode k_P_Reckoning_load.2.1 112 = .ok (.iinc 4 (1), 3)) rfl (by decide) rfl (ls2 := [(4, .int v1), (0, .ref 28), (3, .int x3)]) (i := 4)) ?_
  refine ai (r_goto (pc := 115) (tgt := 42) (by decide +kernel : decode k_P_Reckoning_load.2.1 115 = .ok (.goto (-73), 3)) (by decide)) ?_
  exact (ai (r_sub [1, 2, 0] rfl) (hk42 x3 v1 m _ _ hL h))
set_option maxRecDepth 100000 in
set_option maxHeartbeats 4000000 in
theorem P_Reckoning_load_42_run {n : Nat} {x3 : Int32} {x4 : Int32} {m m' : Mem} {r : Unit} (hL : PL m) (h : P_Reckoning_load_42 n x3 x4 m = some (r, m')) : Run k_P_Reckoning_load 42 [(0, .ref 28), (3, .int x3), (4, .int x4)] [] m none m' ∧ PL m' := by
  induction n generalizing x3 x4 m r m' with
  | zero => exact absurd h (by simp [P_Reckoning_load_42])
  | succ n ih =>
    rw [P_Reckoning_load_42.eq_2] at h
    refine ai (r_iload (pc := 42) (k := 2) (by decide +kernel : decode k_P_Reckoning_load.2.1 42 = .ok (.iload 4, 2)) rfl) ?_
    refine ai (r_iload_n (pc := 44) (k := 1) (by decide +kernel : decode k_P_Reckoning_load.2.1 44 = .ok (.iload_n 3, 1)) rfl rfl) ?_
    rcases ite_some h with ⟨c1, h⟩ | ⟨c1, h⟩
    · refine ai (r_icmp_ge_t (pc := 45) (tgt := 118) (by decide +kernel : decode k_P_Reckoning_load.2.1 45 = .ok (.if_icmp .ge (73), 3)) (by decide) c1) ?_
      cases h
      exact ⟨r_vret rfl (by decide +kernel : decode k_P_Reckoning_load.2.1 118 = .ok (.return_, 1)), hL⟩
    · refine ai (r_icmp_ge_f (pc := 45) 118 (by decide +kernel : decode k_P_Reckoning_load.2.1 45 = .ok (.if_icmp .ge (73), 3)) (by decide) c1) ?_
      refine ai (p_aload_n (pc := 48) (k := 0) (by decide +kernel : decode k_P_Reckoning_load.2.1 48 = .ok (.aload_n 0, 1)) rfl rfl) ?_
      refine ai (p_getr (pc := 49) (PR_1024_28 hL) (by decide +kernel : decode k_P_Reckoning_load.2.1 49 = .ok (.getfield 54, 3)) lg_8_54 (PC_28 hL).1) ?_
      refine ai (p_getr (pc := 52) (PR_512_13 hL) (by decide +kernel : decode k_P_Reckoning_load.2.1 52 = .ok (.getfield 72, 3)) lg_8_72 (PC_13 hL).1) ?_
      refine ai (r_iload (pc := 55) (k := 2) (by decide +kernel : decode k_P_Reckoning_load.2.1 55 = .ok (.iload 4, 2)) rfl) ?_
      obtain ⟨g2, h⟩ := gd_some h
      obtain ⟨a3, o4, h⟩ := gs_some h
      refine ai (p_aaldr (pc := 57) (j := 2) (by decide) o4 (by decide +kernel : decode k_P_Reckoning_load.2.1 57 = .ok (.aaload, 1)) (PC_14 hL).1 (PC_14 hL).2 g2) ?_
      refine ai (p_astore (pc := 58) (by decide +kernel : decode k_P_Reckoning_load.2.1 58 = .ok (.astore 5, 2)) (by decide) rfl (ls2 := [(5, .ref a3), (0, .ref 28), (3, .int x3), (4, .int x4)]) (i := 5)) ?_
      refine ai (p_aload (pc := 60) (k := 0) (by decide +kernel : decode k_P_Reckoning_load.2.1 60 = .ok (.aload 5, 2)) rfl) ?_
      obtain ⟨t5, h⟩ := gt_some h
      refine ai (r_getI (pc := 62) (by decide +kernel : decode k_P_Reckoning_load.2.1 62 = .ok (.getfield 77, 3)) lg_8_77 (by decide) t5) ?_
      refine ai (r_bipush (pc := 65) (by decide +kernel : decode k_P_Reckoning_load.2.1 65 = .ok (.bipush (6), 2)) (by decide : _ = (6 : Int32))) ?_
      rcases ite_some h with ⟨c6, h⟩ | ⟨c6, h⟩
      · refine ai (r_icmp_ne_f (pc := 67) 112 (by decide +kernel : decode k_P_Reckoning_load.2.1 67 = .ok (.if_icmp .ne (45), 3)) (by decide) c6) ?_
        refine ai (p_aload (pc := 70) (k := 0) (by decide +kernel : decode k_P_Reckoning_load.2.1 70 = .ok (.aload 5, 2)) rfl) ?_
        refine ai (r_getI (pc := 72) (by decide +kernel : decode k_P_Reckoning_load.2.1 72 = .ok (.getfield 80, 3)) lg_8_80 (by decide) t5) ?_
        refine ai (p_aload_n (pc := 75) (k := 1) (by decide +kernel : decode k_P_Reckoning_load.2.1 75 = .ok (.aload_n 0, 1)) rfl rfl) ?_
        refine ai (r_getI (pc := 76) (by decide +kernel : decode k_P_Reckoning_load.2.1 76 = .ok (.getfield 62, 3)) lg_8_62 (by decide) (PC_28 hL).1) ?_
        rcases ite_some h with ⟨c7, h⟩ | ⟨c7, h⟩
        · refine ai (r_icmp_ne_f (pc := 79) 112 (by decide +kernel : decode k_P_Reckoning_load.2.1 79 = .ok (.if_icmp .ne (33), 3)) (by decide) c7) ?_
          refine ai (p_aload (pc := 82) (k := 0) (by decide +kernel : decode k_P_Reckoning_load.2.1 82 = .ok (.aload 5, 2)) rfl) ?_
          refine ai (r_getI (pc := 84) (by decide +kernel : decode k_P_Reckoning_load.2.1 84 = .ok (.getfield 83, 3)) lg_8_83 (by decide) t5) ?_
          refine ai (r_bipush (pc := 87) (by decide +kernel : decode k_P_Reckoning_load.2.1 87 = .ok (.bipush (7), 2)) (by decide : _ = (7 : Int32))) ?_
          refine ai (r_idiv (pc := 89) (by decide +kernel : decode k_P_Reckoning_load.2.1 89 = .ok (.idiv, 1)) (by decide)) ?_
          refine ai (p_aload_n (pc := 90) (k := 1) (by decide +kernel : decode k_P_Reckoning_load.2.1 90 = .ok (.aload_n 0, 1)) rfl rfl) ?_
          refine ai (r_getI (pc := 91) (by decide +kernel : decode k_P_Reckoning_load.2.1 91 = .ok (.getfield 66, 3)) lg_8_66 (by decide) (PC_28 hL).1) ?_
          rcases ite_some h with ⟨c8, h⟩ | ⟨c8, h⟩
          · refine ai (r_icmp_ne_f (pc := 94) 112 (by decide +kernel : decode k_P_Reckoning_load.2.1 94 = .ok (.if_icmp .ne (18), 3)) (by decide) c8) ?_
            refine ai (p_aload_n (pc := 97) (k := 1) (by decide +kernel : decode k_P_Reckoning_load.2.1 97 = .ok (.aload_n 0, 1)) rfl rfl) ?_
            refine ai (p_getr (pc := 98) (PR_1029_28 hL) (by decide +kernel : decode k_P_Reckoning_load.2.1 98 = .ok (.getfield 11, 3)) lg_8_11 (PC_28 hL).1) ?_
            refine ai (p_aload (pc := 101) (k := 0) (by decide +kernel : decode k_P_Reckoning_load.2.1 101 = .ok (.aload 5, 2)) rfl) ?_
            refine ai (r_getI (pc := 103) (by decide +kernel : decode k_P_Reckoning_load.2.1 103 = .ok (.getfield 83, 3)) lg_8_83 (by decide) t5) ?_
            refine ai (r_bipush (pc := 106) (by decide +kernel : decode k_P_Reckoning_load.2.1 106 = .ok (.bipush (7), 2)) (by decide : _ = (7 : Int32))) ?_
            refine ai (r_irem (pc := 108) (by decide +kernel : decode k_P_Reckoning_load.2.1 108 = .ok (.irem, 1)) (by decide)) ?_
            refine ai (p_aload (pc := 109) (k := 0) (by decide +kernel : decode k_P_Reckoning_load.2.1 109 = .ok (.aload 5, 2)) rfl) ?_
            obtain ⟨g9, h⟩ := gd_some h
            have c10 := (PC_29 hL).1
            have c11 := (PC_29 hL).2
            obtain ⟨m12, hm12, h⟩ := vb_some h
            have hL : PL m12 := by rw [hm12]; exact hL
            have t13 : mT m12 a3 = 1 := by rw [hm12]; exact t5
            refine ai (p_aastr (pc := 111) (j := 2) (by decide) hm12 (by decide +kernel : decode k_P_Reckoning_load.2.1 111 = .ok (.aastore, 1)) c10 c11 g9 t5) ?_
            exact (ai (r_sub [1, 2, 3] rfl) (P_Reckoning_load_112_run (fun _ _ _ _ _ q1 q3 => ih q1 q3) hL h))
          · refine ai (r_icmp_ne_t (pc := 94) (tgt := 112) (by decide +kernel : decode k_P_Reckoning_load.2.1 94 = .ok (.if_icmp .ne (18), 3)) (by decide) c8) ?_
            exact (ai (r_sub [1, 2, 3] rfl) (P_Reckoning_load_112_run (fun _ _ _ _ _ q1 q3 => ih q1 q3) hL h))
        · refine ai (r_icmp_ne_t (pc := 79) (tgt := 112) (by decide +kernel : decode k_P_Reckoning_load.2.1 79 = .ok (.if_icmp .ne (33), 3)) (by decide) c7) ?_
          exact (ai (r_sub [1, 2, 3] rfl) (P_Reckoning_load_112_run (fun _ _ _ _ _ q1 q3 => ih q1 q3) hL h))
      · refine ai (r_icmp_ne_t (pc := 67) (tgt := 112) (by decide +kernel : decode k_P_Reckoning_load.2.1 67 = .ok (.if_icmp .ne (45), 3)) (by decide) c6) ?_
        exact (ai (r_sub [1, 2, 3] rfl) (P_Reckoning_load_112_run (fun _ _ _ _ _ q1 q3 => ih q1 q3) hL h))
set_option maxRecDepth 100000 in
set_option maxHeartbeats 4000000 in
theorem P_Reckoning_load_39_run {x3 : Int32} {m m' : Mem} {r : Unit} (hL : PL m) (h : P_Reckoning_load_39 x3 m = some (r, m')) : Run k_P_Reckoning_load 39 [(0, .ref 28), (3, .int x3)] [] m none m' ∧ PL m' := by
  unfold P_Reckoning_load_39 at h
  refine ai (r_iconst (pc := 39) (by decide +kernel : decode k_P_Reckoning_load.2.1 39 = .ok (.iconst 0, 1)) ic_0) ?_
  refine ai (e_istore (pc := 40) rfl (by decide +kernel : decode k_P_Reckoning_load.2.1 40 = .ok (.istore 4, 2)) (by decide) rfl (ls2 := [(4, .int 0), (0, .ref 28), (3, .int x3)]) (i := 4)) ?_
  exact (ai (r_sub [1, 2, 0] rfl) (P_Reckoning_load_42_run hL h))
set_option maxRecDepth 100000 in
set_option maxHeartbeats 4000000 in
theorem P_Reckoning_load_18_run {n : Nat} {x3 : Int32} {x4 : Int32} {m m' : Mem} {r : Unit} (hL : PL m) (h : P_Reckoning_load_18 n x3 x4 m = some (r, m')) : Run k_P_Reckoning_load 18 [(0, .ref 28), (3, .int x3), (4, .int x4)] [] m none m' ∧ PL m' := by
  induction n generalizing x3 x4 m r m' with
  | zero => exact absurd h (by simp [P_Reckoning_load_18])
  | succ n ih =>
    rw [P_Reckoning_load_18.eq_2] at h
    refine ai (r_iload (pc := 18) (k := 2) (by decide +kernel : decode k_P_Reckoning_load.2.1 18 = .ok (.iload 4, 2)) rfl) ?_
    refine ai (r_bipush (pc := 20) (by decide +kernel : decode k_P_Reckoning_load.2.1 20 = .ok (.bipush (7), 2)) (by decide : _ = (7 : Int32))) ?_
    rcases ite_some h with ⟨c1, h⟩ | ⟨c1, h⟩
    · refine ai (r_icmp_ge_t (pc := 22) (tgt := 39) (by decide +kernel : decode k_P_Reckoning_load.2.1 22 = .ok (.if_icmp .ge (17), 3)) (by decide) c1) ?_
      exact (ai (r_sub [0, 1] rfl) (P_Reckoning_load_39_run hL h))
    · refine ai (r_icmp_ge_f (pc := 22) 39 (by decide +kernel : decode k_P_Reckoning_load.2.1 22 = .ok (.if_icmp .ge (17), 3)) (by decide) c1) ?_
      refine ai (p_aload_n (pc := 25) (k := 0) (by decide +kernel : decode k_P_Reckoning_load.2.1 25 = .ok (.aload_n 0, 1)) rfl rfl) ?_
      refine ai (p_getr (pc := 26) (PR_1029_28 hL) (by decide +kernel : decode k_P_Reckoning_load.2.1 26 = .ok (.getfield 11, 3)) lg_8_11 (PC_28 hL).1) ?_
      refine ai (r_iload (pc := 29) (k := 2) (by decide +kernel : decode k_P_Reckoning_load.2.1 29 = .ok (.iload 4, 2)) rfl) ?_
      refine ai (r_null (pc := 31) (by decide +kernel : decode k_P_Reckoning_load.2.1 31 = .ok (.aconst_null, 1))) ?_
      obtain ⟨g2, h⟩ := gd_some h
      have c3 := (PC_29 hL).1
      have c4 := (PC_29 hL).2
      obtain ⟨m5, hm5, h⟩ := vb_some h
      have hL : PL m5 := by rw [hm5]; exact hL
      refine ai (p_aastn (pc := 32) (j := 2) (by decide) hm5 (by decide +kernel : decode k_P_Reckoning_load.2.1 32 = .ok (.aastore, 1)) c3 c4 g2) ?_
      obtain ⟨v6, hv6, h⟩ := vb_some h
      refine ai (e_iinc (pc := 33) (k := 2) hv6 ic_1 (by decide +kernel : decode k_P_Reckoning_load.2.1 33 = .ok (.iinc 4 (1), 3)) rfl (by decide) rfl (ls2 := [(4, .int v6), (0, .ref 28), (3, .int x3)]) (i := 4)) ?_
      refine ai (r_goto (pc := 36) (tgt := 18) (by decide +kernel : decode k_P_Reckoning_load.2.1 36 = .ok (.goto (-18), 3)) (by decide)) ?_
      exact (ai (r_sub [1, 2, 0] rfl) (ih hL h))
set_option maxRecDepth 100000 in
set_option maxHeartbeats 4000000 in
theorem P_Reckoning_load_run {x1 : Int32} {x2 : Int32} {x3 : Int32} {m m' : Mem} {r : Unit} (hL : PL m) (h : P_Reckoning_load x1 x2 x3 m = some (r, m')) : Run k_P_Reckoning_load 0 [(0, .ref 28), (1, .int x1), (2, .int x2), (3, .int x3)] [] m none m' ∧ PL m' := by
  unfold P_Reckoning_load at h
  refine ai (p_aload_n (pc := 0) (k := 0) (by decide +kernel : decode k_P_Reckoning_load.2.1 0 = .ok (.aload_n 0, 1)) rfl rfl) ?_
  refine ai (r_iload_n (pc := 1) (k := 1) (by decide +kernel : decode k_P_Reckoning_load.2.1 1 = .ok (.iload_n 1, 1)) rfl rfl) ?_
  have c1 := (PC_28 hL).1
  obtain ⟨m2, hm2, h⟩ := vb_some h
  have hL : PL m2 := by rw [hm2]; exact hL
  refine ai (p_putI (pc := 2) hm2 (by decide +kernel : decode k_P_Reckoning_load.2.1 2 = .ok (.putfield 62, 3)) lp_8_62 c1) ?_
  refine ai (p_aload_n (pc := 5) (k := 0) (by decide +kernel : decode k_P_Reckoning_load.2.1 5 = .ok (.aload_n 0, 1)) rfl rfl) ?_
  refine ai (r_iload_n (pc := 6) (k := 2) (by decide +kernel : decode k_P_Reckoning_load.2.1 6 = .ok (.iload_n 2, 1)) rfl rfl) ?_
  have c3 := (PC_28 hL).1
  obtain ⟨m4, hm4, h⟩ := vb_some h
  have hL : PL m4 := by rw [hm4]; exact hL
  refine ai (p_putI (pc := 7) hm4 (by decide +kernel : decode k_P_Reckoning_load.2.1 7 = .ok (.putfield 66, 3)) lp_8_66 c3) ?_
  refine ai (p_aload_n (pc := 10) (k := 0) (by decide +kernel : decode k_P_Reckoning_load.2.1 10 = .ok (.aload_n 0, 1)) rfl rfl) ?_
  refine ai (r_iload_n (pc := 11) (k := 3) (by decide +kernel : decode k_P_Reckoning_load.2.1 11 = .ok (.iload_n 3, 1)) rfl rfl) ?_
  have c5 := (PC_28 hL).1
  obtain ⟨m6, hm6, h⟩ := vb_some h
  have hL : PL m6 := by rw [hm6]; exact hL
  refine ai (p_putI (pc := 12) hm6 (by decide +kernel : decode k_P_Reckoning_load.2.1 12 = .ok (.putfield 69, 3)) lp_8_69 c5) ?_
  refine ai (r_iconst (pc := 15) (by decide +kernel : decode k_P_Reckoning_load.2.1 15 = .ok (.iconst 0, 1)) ic_0) ?_
  refine ai (e_istore (pc := 16) rfl (by decide +kernel : decode k_P_Reckoning_load.2.1 16 = .ok (.istore 4, 2)) (by decide) rfl (ls2 := [(4, .int 0), (0, .ref 28), (1, .int x1), (2, .int x2), (3, .int x3)]) (i := 4)) ?_
  exact (ai (r_sub [1, 4, 0] rfl) (P_Reckoning_load_18_run hL h))
set_option maxRecDepth 100000 in
set_option maxHeartbeats 4000000 in
theorem P_Reckoning_doneIn_run {x1 : Int32} {x2 : Int32} {m m' : Mem} {r : Int32} (hL : PL m) (h : P_Reckoning_doneIn x1 x2 m = some (r, m')) : Run k_P_Reckoning_doneIn 0 [(0, .ref 28), (1, .int x1), (2, .int x2)] [] m (some (.int r)) m' ∧ PL m' := by
  unfold P_Reckoning_doneIn at h
  refine ai (p_aload_n (pc := 0) (k := 0) (by decide +kernel : decode k_P_Reckoning_doneIn.2.1 0 = .ok (.aload_n 0, 1)) rfl rfl) ?_
  refine ai (p_getr (pc := 1) (PR_1029_28 hL) (by decide +kernel : decode k_P_Reckoning_doneIn.2.1 1 = .ok (.getfield 11, 3)) lg_8_11 (PC_28 hL).1) ?_
  refine ai (r_iload_n (pc := 4) (k := 1) (by decide +kernel : decode k_P_Reckoning_doneIn.2.1 4 = .ok (.iload_n 1, 1)) rfl rfl) ?_
  obtain ⟨g1, h⟩ := gd_some h
  refine ai (p_aald (pc := 5) (j := 2) (by decide) (by decide +kernel : decode k_P_Reckoning_doneIn.2.1 5 = .ok (.aaload, 1)) (PC_29 hL).1 (PC_29 hL).2 g1) ?_
  refine ai (r_astore_n (pc := 6) (by decide +kernel : decode k_P_Reckoning_doneIn.2.1 6 = .ok (.astore_n 3, 1)) rfl (by decide) rfl (ls2 := [(3, va_rf (aR m 29 (ix x1))), (0, .ref 28), (1, .int x1), (2, .int x2)]) (i := 3)) ?_
  refine ai (r_aload_n (pc := 7) (k := 0) (by decide +kernel : decode k_P_Reckoning_doneIn.2.1 7 = .ok (.aload_n 3, 1)) rfl rfl) ?_
  rcases ite_some h with ⟨c2, h⟩ | ⟨c2, h⟩
  · refine ai (d_ifnonnull_f (pc := 8) c2 (by decide +kernel : decode k_P_Reckoning_doneIn.2.1 8 = .ok (.ifnonnull (5), 3))) ?_
    refine ai (r_iconst (pc := 11) (by decide +kernel : decode k_P_Reckoning_doneIn.2.1 11 = .ok (.iconst (-1), 1)) ic_m1) ?_
    cases h
    exact ⟨r_iret rfl (by decide +kernel : decode k_P_Reckoning_doneIn.2.1 12 = .ok (.ireturn, 1)), hL⟩
  · refine ai (d_ifnonnull_t (pc := 8) (tgt := 13) c2 (by decide +kernel : decode k_P_Reckoning_doneIn.2.1 8 = .ok (.ifnonnull (5), 3)) (by decide)) ?_
    refine ai (r_iload_n (pc := 13) (k := 3) (by decide +kernel : decode k_P_Reckoning_doneIn.2.1 13 = .ok (.iload_n 2, 1)) rfl rfl) ?_
    obtain ⟨a3, o4, h⟩ := gs_some h
    refine ai (d_aload_n (pc := 14) (k := 0) o4 (by decide +kernel : decode k_P_Reckoning_doneIn.2.1 14 = .ok (.aload_n 3, 1)) rfl rfl) ?_
    obtain ⟨t5, h⟩ := gt_some h
    obtain ⟨a6, o7, h⟩ := gs_some h
    refine ai (p_getr (pc := 15) o7 (by decide +kernel : decode k_P_Reckoning_doneIn.2.1 15 = .ok (.getfield 86, 3)) lg_8_86 t5) ?_
    obtain ⟨t8, h⟩ := gt_some h
    refine ai (p_alen (pc := 18) (by decide +kernel : decode k_P_Reckoning_doneIn.2.1 18 = .ok (.arraylength, 1)) (by rw [t8]; decide) rfl rfl) ?_
    rcases ite_some h with ⟨c9, h⟩ | ⟨c9, h⟩
    · refine ai (r_icmp_ge_t (pc := 19) (tgt := 31) (by decide +kernel : decode k_P_Reckoning_doneIn.2.1 19 = .ok (.if_icmp .ge (12), 3)) (by decide) c9) ?_
      refine ai (r_bipush (pc := 31) (by decide +kernel : decode k_P_Reckoning_doneIn.2.1 31 = .ok (.bipush (-2), 2)) (by decide : _ = (-2 : Int32))) ?_
      cases h
      exact ⟨r_iret rfl (by decide +kernel : decode k_P_Reckoning_doneIn.2.1 33 = .ok (.ireturn, 1)), hL⟩
    · refine ai (r_icmp_ge_f (pc := 19) 31 (by decide +kernel : decode k_P_Reckoning_doneIn.2.1 19 = .ok (.if_icmp .ge (12), 3)) (by decide) c9) ?_
      refine ai (d_aload_n (pc := 22) (k := 0) o4 (by decide +kernel : decode k_P_Reckoning_doneIn.2.1 22 = .ok (.aload_n 3, 1)) rfl rfl) ?_
      obtain ⟨a10, o11, h⟩ := gs_some h
      refine ai (p_getr (pc := 23) o11 (by decide +kernel : decode k_P_Reckoning_doneIn.2.1 23 = .ok (.getfield 86, 3)) lg_8_86 t5) ?_
      refine ai (r_iload_n (pc := 26) (k := 3) (by decide +kernel : decode k_P_Reckoning_doneIn.2.1 26 = .ok (.iload_n 2, 1)) rfl rfl) ?_
      obtain ⟨t12, h⟩ := gt_some h
      obtain ⟨g13, h⟩ := gd_some h
      refine ai (p_iald (pc := 27) (by decide +kernel : decode k_P_Reckoning_doneIn.2.1 27 = .ok (.iaload, 1)) t12 rfl g13) ?_
      refine ai (r_goto (pc := 28) (tgt := 33) (by decide +kernel : decode k_P_Reckoning_doneIn.2.1 28 = .ok (.goto (5), 3)) (by decide)) ?_
      cases h
      exact ⟨r_iret rfl (by decide +kernel : decode k_P_Reckoning_doneIn.2.1 33 = .ok (.ireturn, 1)), hL⟩
set_option maxRecDepth 100000 in
set_option maxHeartbeats 4000000 in
theorem P_did_run {x1 : Int32} {x2 : Int32} {x3 : Int32} {x4 : Int32} {m m' : Mem} {r : Int32} (hL : PL m) (h : P_did x1 x2 x3 x4 m = some (r, m')) : Run k_P_did 0 [(0, .ref 0), (1, .int x1), (2, .int x2), (3, .int x3), (4, .int x4)] [] m (some (.int r)) m' ∧ PL m' := by
  unfold P_did at h
  refine ai (p_aload_n (pc := 0) (k := 0) (by decide +kernel : decode k_P_did.2.1 0 = .ok (.aload_n 0, 1)) rfl rfl) ?_
  refine ai (r_iload_n (pc := 1) (k := 1) (by decide +kernel : decode k_P_did.2.1 1 = .ok (.iload_n 1, 1)) rfl rfl) ?_
  refine ai (r_iload_n (pc := 2) (k := 2) (by decide +kernel : decode k_P_did.2.1 2 = .ok (.iload_n 2, 1)) rfl rfl) ?_
  refine ai (r_iload_n (pc := 3) (k := 3) (by decide +kernel : decode k_P_did.2.1 3 = .ok (.iload_n 3, 1)) rfl rfl) ?_
  refine ai (r_iload (pc := 4) (k := 4) (by decide +kernel : decode k_P_did.2.1 4 = .ok (.iload 4, 2)) rfl) ?_
  obtain ⟨r1, m2, hr1, h⟩ := bn_some h
  have q3 := P_isHalfOf_run hL hr1
  have c4 := (PC_0 hL).1
  have hL := q3.2
  refine ai (q_callV (pc := 6) (As := [.int x1, .int x2, .int x3, .int x4]) (st := []) (st2 := [.int r1]) (b := 0) rfl rfl (by decide +kernel : decode k_P_did.2.1 6 = .ok (.invokevirtual 252, 3)) lc_11_252 mo_P_isHalfOf ⟨Nat.le_of_ble_eq_true rfl, Nat.le_of_ble_eq_true rfl⟩ (Nat.le_of_ble_eq_true rfl) (Nat.le_of_ble_eq_true rfl) c4 q3.1) ?_
  rcases ite_some h with ⟨c5, h⟩ | ⟨c5, h⟩
  · refine ai (r_if_ne_f (pc := 9) 15 (by decide +kernel : decode k_P_did.2.1 9 = .ok (.ifCond .ne (6), 3)) (by decide) c5) ?_
    refine ai (r_bipush (pc := 12) (by decide +kernel : decode k_P_did.2.1 12 = .ok (.bipush (-3), 2)) (by decide : _ = (-3 : Int32))) ?_
    cases h
    exact ⟨r_iret rfl (by decide +kernel : decode k_P_did.2.1 14 = .ok (.ireturn, 1)), hL⟩
  · refine ai (r_if_ne_t (pc := 9) (tgt := 15) (by decide +kernel : decode k_P_did.2.1 9 = .ok (.ifCond .ne (6), 3)) (by decide) c5) ?_
    refine ai (p_aload_n (pc := 15) (k := 0) (by decide +kernel : decode k_P_did.2.1 15 = .ok (.aload_n 0, 1)) rfl rfl) ?_
    refine ai (p_getr (pc := 16) (PR_1413_0 hL) (by decide +kernel : decode k_P_did.2.1 16 = .ok (.getfield 60, 3)) lg_11_60 (PC_0 hL).1) ?_
    refine ai (r_iload_n (pc := 19) (k := 1) (by decide +kernel : decode k_P_did.2.1 19 = .ok (.iload_n 1, 1)) rfl rfl) ?_
    refine ai (r_iload_n (pc := 20) (k := 2) (by decide +kernel : decode k_P_did.2.1 20 = .ok (.iload_n 2, 1)) rfl rfl) ?_
    refine ai (r_bipush (pc := 21) (by decide +kernel : decode k_P_did.2.1 21 = .ok (.bipush (7), 2)) (by decide : _ = (7 : Int32))) ?_
    refine ai (r_idiv (pc := 23) (by decide +kernel : decode k_P_did.2.1 23 = .ok (.idiv, 1)) (by decide)) ?_
    refine ai (r_iload (pc := 24) (k := 4) (by decide +kernel : decode k_P_did.2.1 24 = .ok (.iload 4, 2)) rfl) ?_
    obtain ⟨r6, m7, hr6, h⟩ := bn_some h
    have q8 := P_Reckoning_load_run hL hr6
    have c9 := (PC_28 hL).1
    have hL := q8.2
    refine ai (q_callV (pc := 26) (As := [.int x1, .int (x2 / 7), .int x4]) (st := []) (st2 := []) (b := 28) rfl rfl (by decide +kernel : decode k_P_did.2.1 26 = .ok (.invokevirtual 256, 3)) lc_11_256 mo_P_Reckoning_load ⟨Nat.le_of_ble_eq_true rfl, Nat.le_of_ble_eq_true rfl⟩ (Nat.le_of_ble_eq_true rfl) (Nat.le_of_ble_eq_true rfl) c9 q8.1) ?_
    refine ai (p_aload_n (pc := 29) (k := 0) (by decide +kernel : decode k_P_did.2.1 29 = .ok (.aload_n 0, 1)) rfl rfl) ?_
    refine ai (p_getr (pc := 30) (PR_1413_0 hL) (by decide +kernel : decode k_P_did.2.1 30 = .ok (.getfield 60, 3)) lg_11_60 (PC_0 hL).1) ?_
    refine ai (r_iload_n (pc := 33) (k := 2) (by decide +kernel : decode k_P_did.2.1 33 = .ok (.iload_n 2, 1)) rfl rfl) ?_
    refine ai (r_bipush (pc := 34) (by decide +kernel : decode k_P_did.2.1 34 = .ok (.bipush (7), 2)) (by decide : _ = (7 : Int32))) ?_
    refine ai (r_irem (pc := 36) (by decide +kernel : decode k_P_did.2.1 36 = .ok (.irem, 1)) (by decide)) ?_
    refine ai (r_iload_n (pc := 37) (k := 3) (by decide +kernel : decode k_P_did.2.1 37 = .ok (.iload_n 3, 1)) rfl rfl) ?_
    obtain ⟨r10, m11, hr10, h⟩ := bn_some h
    have q12 := P_Reckoning_doneIn_run hL hr10
    have c13 := (PC_28 hL).1
    have hL := q12.2
    refine ai (q_callV (pc := 38) (As := [.int (x2 - x2 / 7 * 7), .int x3]) (st := []) (st2 := [.int r10]) (b := 28) rfl rfl (by decide +kernel : decode k_P_did.2.1 38 = .ok (.invokevirtual 260, 3)) lc_11_260 mo_P_Reckoning_doneIn ⟨Nat.le_of_ble_eq_true rfl, Nat.le_of_ble_eq_true rfl⟩ (Nat.le_of_ble_eq_true rfl) (Nat.le_of_ble_eq_true rfl) c13 q12.1) ?_
    cases h
    exact ⟨r_iret rfl (by decide +kernel : decode k_P_did.2.1 41 = .ok (.ireturn, 1)), hL⟩
set_option maxRecDepth 100000 in
set_option maxHeartbeats 4000000 in
theorem P_Reckoning_tasksOn_56_run {k29 : Int32 → Int32 → Int32 → Int32 → Mem → Option (Int32 × Mem)} {x1 : Int32} {x2 : Int32} {x3 : Int32} {x4 : Int32} {m m' : Mem} {r : Int32} (hk29 : ∀ (x1 : Int32) (x2 : Int32) (x3 : Int32) (x4 : Int32) (m : Mem) (r : Int32) (m' : Mem), PL m → k29 x1 x2 x3 x4 m = some (r, m') → Run k_P_Reckoning_tasksOn 29 [(0, .ref 28), (1, .int x1), (2, .int x2), (3, .int x3), (4, .int x4)] [] m (some (.int r)) m' ∧ PL m') (hL : PL m) (h : P_Reckoning_tasksOn_56 k29 x1 x2 x3 x4 m = some (r, m')) : Run k_P_Reckoning_tasksOn 56 [(0, .ref 28), (1, .int x1), (2, .int x2), (3, .int x3), (4, .int x4)] [] m (some (.int r)) m' ∧ PL m' := by
  unfold P_Reckoning_tasksOn_56 at h
  obtain ⟨v1, hv1, h⟩ := vb_some h
  refine ai (e_iinc (pc := 56) (k := 4) hv1 ic_1 (by decide +kernel : decode k_P_Reckoning_tasksOn.2.1 56 = .ok (.iinc 4 (1), 3)) rfl (by decide) rfl (ls2 := [(4, .int v1), (0, .ref 28), (1, .int x1), (2, .int x2), (3, .int x3)]) (i := 4)) ?_
  refine ai (r_goto (pc := 59) (tgt := 29) (by decide +kernel : decode k_P_Reckoning_tasksOn.2.1 59 = .ok (.goto (-30), 3)) (by decide)) ?_
  exact (ai (r_sub [1, 2, 3, 4, 0] rfl) (hk29 x1 x2 x3 v1 m _ _ hL h))
set_option maxRecDepth 100000 in
set_option maxHeartbeats 4000000 in
theorem P_Reckoning_tasksOn_29_run {n : Nat} {x1 : Int32} {x2 : Int32} {x3 : Int32} {x4 : Int32} {m m' : Mem} {r : Int32} (hL : PL m) (h : P_Reckoning_tasksOn_29 n x1 x2 x3 x4 m = some (r, m')) : Run k_P_Reckoning_tasksOn 29 [(0, .ref 28), (1, .int x1), (2, .int x2), (3, .int x3), (4, .int x4)] [] m (some (.int r)) m' ∧ PL m' := by
  induction n generalizing x1 x2 x3 x4 m r m' with
  | zero => exact absurd h (by simp [P_Reckoning_tasksOn_29])
  | succ n ih =>
    rw [P_Reckoning_tasksOn_29.eq_2] at h
    refine ai (r_iload (pc := 29) (k := 4) (by decide +kernel : decode k_P_Reckoning_tasksOn.2.1 29 = .ok (.iload 4, 2)) rfl) ?_
    refine ai (r_iload_n (pc := 31) (k := 3) (by decide +kernel : decode k_P_Reckoning_tasksOn.2.1 31 = .ok (.iload_n 3, 1)) rfl rfl) ?_
    rcases ite_some h with ⟨c1, h⟩ | ⟨c1, h⟩
    · refine ai (r_icmp_ge_t (pc := 32) (tgt := 62) (by decide +kernel : decode k_P_Reckoning_tasksOn.2.1 32 = .ok (.if_icmp .ge (30), 3)) (by decide) c1) ?_
      refine ai (r_iload_n (pc := 62) (k := 2) (by decide +kernel : decode k_P_Reckoning_tasksOn.2.1 62 = .ok (.iload_n 2, 1)) rfl rfl) ?_
      cases h
      exact ⟨r_iret rfl (by decide +kernel : decode k_P_Reckoning_tasksOn.2.1 63 = .ok (.ireturn, 1)), hL⟩
    · refine ai (r_icmp_ge_f (pc := 32) 62 (by decide +kernel : decode k_P_Reckoning_tasksOn.2.1 32 = .ok (.if_icmp .ge (30), 3)) (by decide) c1) ?_
      refine ai (p_aload_n (pc := 35) (k := 0) (by decide +kernel : decode k_P_Reckoning_tasksOn.2.1 35 = .ok (.aload_n 0, 1)) rfl rfl) ?_
      refine ai (p_getr (pc := 36) (PR_1029_28 hL) (by decide +kernel : decode k_P_Reckoning_tasksOn.2.1 36 = .ok (.getfield 11, 3)) lg_8_11 (PC_28 hL).1) ?_
      refine ai (r_iload_n (pc := 39) (k := 1) (by decide +kernel : decode k_P_Reckoning_tasksOn.2.1 39 = .ok (.iload_n 1, 1)) rfl rfl) ?_
      obtain ⟨g2, h⟩ := gd_some h
      obtain ⟨a3, o4, h⟩ := gs_some h
      refine ai (p_aaldr (pc := 40) (j := 2) (by decide) o4 (by decide +kernel : decode k_P_Reckoning_tasksOn.2.1 40 = .ok (.aaload, 1)) (PC_29 hL).1 (PC_29 hL).2 g2) ?_
      obtain ⟨t5, h⟩ := gt_some h
      obtain ⟨a6, o7, h⟩ := gs_some h
      refine ai (p_getr (pc := 41) o7 (by decide +kernel : decode k_P_Reckoning_tasksOn.2.1 41 = .ok (.getfield 86, 3)) lg_8_86 t5) ?_
      refine ai (r_iload (pc := 44) (k := 4) (by decide +kernel : decode k_P_Reckoning_tasksOn.2.1 44 = .ok (.iload 4, 2)) rfl) ?_
      obtain ⟨t8, h⟩ := gt_some h
      obtain ⟨g9, h⟩ := gd_some h
      refine ai (p_iald (pc := 46) (by decide +kernel : decode k_P_Reckoning_tasksOn.2.1 46 = .ok (.iaload, 1)) t8 rfl g9) ?_
      obtain ⟨r10, hr10, h⟩ := bp_some h
      refine ai (q_callSN (pc := 47) (As := [.int (aI m a6 (ix x4))]) (st := []) (st2 := [.int r10]) rfl rfl (by decide +kernel : decode k_P_Reckoning_tasksOn.2.1 47 = .ok (.invokestatic 89, 3)) lc_8_89 mo_P_isTask ⟨Nat.le_of_ble_eq_true rfl, Nat.le_of_ble_eq_true rfl⟩ (Nat.le_of_ble_eq_true rfl) (Nat.le_of_ble_eq_true rfl) (P_isTask_run hr10)) ?_
      rcases ite_some h with ⟨c11, h⟩ | ⟨c11, h⟩
      · refine ai (r_if_eq_t (pc := 50) (tgt := 56) (by decide +kernel : decode k_P_Reckoning_tasksOn.2.1 50 = .ok (.ifCond .eq (6), 3)) (by decide) c11) ?_
        exact (P_Reckoning_tasksOn_56_run (fun _ _ _ _ _ _ _ q1 q3 => ih q1 q3) hL h)
      · refine ai (r_if_eq_f (pc := 50) 56 (by decide +kernel : decode k_P_Reckoning_tasksOn.2.1 50 = .ok (.ifCond .eq (6), 3)) (by decide) c11) ?_
        obtain ⟨v12, hv12, h⟩ := vb_some h
        refine ai (e_iinc (pc := 53) (k := 2) hv12 ic_1 (by decide +kernel : decode k_P_Reckoning_tasksOn.2.1 53 = .ok (.iinc 2 (1), 3)) rfl (by decide) rfl (ls2 := [(2, .int v12), (0, .ref 28), (1, .int x1), (3, .int x3), (4, .int x4)]) (i := 2)) ?_
        exact (ai (r_sub [1, 2, 0, 3, 4] rfl) (P_Reckoning_tasksOn_56_run (fun _ _ _ _ _ _ _ q1 q3 => ih q1 q3) hL h))
set_option maxRecDepth 100000 in
set_option maxHeartbeats 4000000 in
theorem P_Reckoning_tasksOn_25_run {x1 : Int32} {x2 : Int32} {s0 : Int32} {m m' : Mem} {r : Int32} (hL : PL m) (h : P_Reckoning_tasksOn_25 x1 x2 s0 m = some (r, m')) : Run k_P_Reckoning_tasksOn 25 [(0, .ref 28), (1, .int x1), (2, .int x2)] [.int s0] m (some (.int r)) m' ∧ PL m' := by
  unfold P_Reckoning_tasksOn_25 at h
  refine ai (e_istore_n (pc := 25) rfl (by decide +kernel : decode k_P_Reckoning_tasksOn.2.1 25 = .ok (.istore_n 3, 1)) rfl (by decide) rfl (ls2 := [(3, .int s0), (0, .ref 28), (1, .int x1), (2, .int x2)]) (i := 3)) ?_
  refine ai (r_iconst (pc := 26) (by decide +kernel : decode k_P_Reckoning_tasksOn.2.1 26 = .ok (.iconst 0, 1)) ic_0) ?_
  refine ai (e_istore (pc := 27) rfl (by decide +kernel : decode k_P_Reckoning_tasksOn.2.1 27 = .ok (.istore 4, 2)) (by decide) rfl (ls2 := [(4, .int 0), (3, .int s0), (0, .ref 28), (1, .int x1), (2, .int x2)]) (i := 4)) ?_
  exact (ai (r_sub [2, 3, 4, 1, 0] rfl) (P_Reckoning_tasksOn_29_run hL h))
set_option maxRecDepth 100000 in
set_option maxHeartbeats 4000000 in
theorem P_Reckoning_tasksOn_run {x1 : Int32} {m m' : Mem} {r : Int32} (hL : PL m) (h : P_Reckoning_tasksOn x1 m = some (r, m')) : Run k_P_Reckoning_tasksOn 0 [(0, .ref 28), (1, .int x1)] [] m (some (.int r)) m' ∧ PL m' := by
  unfold P_Reckoning_tasksOn at h
  refine ai (r_iconst (pc := 0) (by decide +kernel : decode k_P_Reckoning_tasksOn.2.1 0 = .ok (.iconst 0, 1)) ic_0) ?_
  refine ai (e_istore_n (pc := 1) rfl (by decide +kernel : decode k_P_Reckoning_tasksOn.2.1 1 = .ok (.istore_n 2, 1)) rfl (by decide) rfl (ls2 := [(2, .int 0), (0, .ref 28), (1, .int x1)]) (i := 2)) ?_
  refine ai (p_aload_n (pc := 2) (k := 1) (by decide +kernel : decode k_P_Reckoning_tasksOn.2.1 2 = .ok (.aload_n 0, 1)) rfl rfl) ?_
  refine ai (p_getr (pc := 3) (PR_1029_28 hL) (by decide +kernel : decode k_P_Reckoning_tasksOn.2.1 3 = .ok (.getfield 11, 3)) lg_8_11 (PC_28 hL).1) ?_
  refine ai (r_iload_n (pc := 6) (k := 2) (by decide +kernel : decode k_P_Reckoning_tasksOn.2.1 6 = .ok (.iload_n 1, 1)) rfl rfl) ?_
  obtain ⟨g1, h⟩ := gd_some h
  refine ai (p_aald (pc := 7) (j := 2) (by decide) (by decide +kernel : decode k_P_Reckoning_tasksOn.2.1 7 = .ok (.aaload, 1)) (PC_29 hL).1 (PC_29 hL).2 g1) ?_
  rcases ite_some h with ⟨c2, h⟩ | ⟨c2, h⟩
  · refine ai (d_ifnonnull_f (pc := 8) c2 (by decide +kernel : decode k_P_Reckoning_tasksOn.2.1 8 = .ok (.ifnonnull (7), 3))) ?_
    refine ai (r_iconst (pc := 11) (by decide +kernel : decode k_P_Reckoning_tasksOn.2.1 11 = .ok (.iconst 0, 1)) ic_0) ?_
    refine ai (r_goto (pc := 12) (tgt := 25) (by decide +kernel : decode k_P_Reckoning_tasksOn.2.1 12 = .ok (.goto (13), 3)) (by decide)) ?_
    exact (ai (r_sub [1, 2, 0] rfl) (P_Reckoning_tasksOn_25_run hL h))
  · refine ai (d_ifnonnull_t (pc := 8) (tgt := 15) c2 (by decide +kernel : decode k_P_Reckoning_tasksOn.2.1 8 = .ok (.ifnonnull (7), 3)) (by decide)) ?_
    refine ai (p_aload_n (pc := 15) (k := 1) (by decide +kernel : decode k_P_Reckoning_tasksOn.2.1 15 = .ok (.aload_n 0, 1)) rfl rfl) ?_
    refine ai (p_getr (pc := 16) (PR_1029_28 hL) (by decide +kernel : decode k_P_Reckoning_tasksOn.2.1 16 = .ok (.getfield 11, 3)) lg_8_11 (PC_28 hL).1) ?_
    refine ai (r_iload_n (pc := 19) (k := 2) (by decide +kernel : decode k_P_Reckoning_tasksOn.2.1 19 = .ok (.iload_n 1, 1)) rfl rfl) ?_
    obtain ⟨g3, h⟩ := gd_some h
    obtain ⟨a4, o5, h⟩ := gs_some h
    refine ai (p_aaldr (pc := 20) (j := 2) (by decide) o5 (by decide +kernel : decode k_P_Reckoning_tasksOn.2.1 20 = .ok (.aaload, 1)) (PC_29 hL).1 (PC_29 hL).2 g3) ?_
    obtain ⟨t6, h⟩ := gt_some h
    obtain ⟨a7, o8, h⟩ := gs_some h
    refine ai (p_getr (pc := 21) o8 (by decide +kernel : decode k_P_Reckoning_tasksOn.2.1 21 = .ok (.getfield 86, 3)) lg_8_86 t6) ?_
    obtain ⟨t9, h⟩ := gt_some h
    refine ai (p_alen (pc := 24) (by decide +kernel : decode k_P_Reckoning_tasksOn.2.1 24 = .ok (.arraylength, 1)) (by rw [t9]; decide) rfl rfl) ?_
    exact (ai (r_sub [1, 2, 0] rfl) (P_Reckoning_tasksOn_25_run hL h))
set_option maxRecDepth 100000 in
set_option maxHeartbeats 4000000 in
theorem P_Reckoning_takeTasks_47_run {k4 : Int32 → Int32 → Int32 → Mem → Option (Unit × Mem)} {x1 : Int32} {x3 : Int32} {s0 : Int32} {s1 : Int32} {m m' : Mem} {r : Unit} (hk4 : ∀ (x1 : Int32) (x2 : Int32) (x3 : Int32) (m : Mem) (r : Unit) (m' : Mem), PL m → k4 x1 x2 x3 m = some (r, m') → Run k_P_Reckoning_takeTasks 4 [(0, .ref 28), (1, .int x1), (2, .int x2), (3, .int x3)] [] m none m' ∧ PL m') (hL : PL m) (h : P_Reckoning_takeTasks_47 k4 x1 x3 s0 s1 m = some (r, m')) : Run k_P_Reckoning_takeTasks 47 [(0, .ref 28), (1, .int x1), (3, .int x3)] [.int s0, .int s1] m none m' ∧ PL m' := by
  unfold P_Reckoning_takeTasks_47 at h
  refine ai (r_iadd (pc := 47) (by decide +kernel : decode k_P_Reckoning_takeTasks.2.1 47 = .ok (.iadd, 1))) ?_
  obtain ⟨v1, hv1, h⟩ := vb_some h
  refine ai (e_istore_n (pc := 48) hv1 (by decide +kernel : decode k_P_Reckoning_takeTasks.2.1 48 = .ok (.istore_n 2, 1)) rfl (by decide) rfl (ls2 := [(2, .int v1), (0, .ref 28), (1, .int x1), (3, .int x3)]) (i := 2)) ?_
  refine ai (p_aload_n (pc := 49) (k := 1) (by decide +kernel : decode k_P_Reckoning_takeTasks.2.1 49 = .ok (.aload_n 0, 1)) rfl rfl) ?_
  refine ai (p_getr (pc := 50) (PR_1033_28 hL) (by decide +kernel : decode k_P_Reckoning_takeTasks.2.1 50 = .ok (.getfield 24, 3)) lg_8_24 (PC_28 hL).1) ?_
  refine ai (r_iload_n (pc := 53) (k := 3) (by decide +kernel : decode k_P_Reckoning_takeTasks.2.1 53 = .ok (.iload_n 3, 1)) rfl rfl) ?_
  refine ai (r_iconst (pc := 54) (by decide +kernel : decode k_P_Reckoning_takeTasks.2.1 54 = .ok (.iconst (-1), 1)) ic_m1) ?_
  obtain ⟨g2, h⟩ := gd_some h
  have c3 := (PC_32 hL).1
  have c4 := (PC_32 hL).2
  obtain ⟨m5, hm5, h⟩ := vb_some h
  have hL : PL m5 := by rw [hm5]; exact hL
  refine ai (p_iast (pc := 55) hm5 (by decide +kernel : decode k_P_Reckoning_takeTasks.2.1 55 = .ok (.iastore, 1)) c3 c4 g2) ?_
  refine ai (p_aload_n (pc := 56) (k := 1) (by decide +kernel : decode k_P_Reckoning_takeTasks.2.1 56 = .ok (.aload_n 0, 1)) rfl rfl) ?_
  refine ai (p_getr (pc := 57) (PR_1034_28 hL) (by decide +kernel : decode k_P_Reckoning_takeTasks.2.1 57 = .ok (.getfield 29, 3)) lg_8_29 (PC_28 hL).1) ?_
  refine ai (r_iload_n (pc := 60) (k := 3) (by decide +kernel : decode k_P_Reckoning_takeTasks.2.1 60 = .ok (.iload_n 3, 1)) rfl rfl) ?_
  refine ai (r_null (pc := 61) (by decide +kernel : decode k_P_Reckoning_takeTasks.2.1 61 = .ok (.aconst_null, 1))) ?_
  obtain ⟨g6, h⟩ := gd_some h
  have c7 := (PC_33 hL).1
  have c8 := (PC_33 hL).2
  obtain ⟨m9, hm9, h⟩ := vb_some h
  have hL : PL m9 := by rw [hm9]; exact hL
  refine ai (p_aastn (pc := 62) (j := 1) (by decide) hm9 (by decide +kernel : decode k_P_Reckoning_takeTasks.2.1 62 = .ok (.aastore, 1)) c7 c8 g6) ?_
  refine ai (p_aload_n (pc := 63) (k := 1) (by decide +kernel : decode k_P_Reckoning_takeTasks.2.1 63 = .ok (.aload_n 0, 1)) rfl rfl) ?_
  refine ai (p_getr (pc := 64) (PR_1035_28 hL) (by decide +kernel : decode k_P_Reckoning_takeTasks.2.1 64 = .ok (.getfield 33, 3)) lg_8_33 (PC_28 hL).1) ?_
  refine ai (r_iload_n (pc := 67) (k := 3) (by decide +kernel : decode k_P_Reckoning_takeTasks.2.1 67 = .ok (.iload_n 3, 1)) rfl rfl) ?_
  refine ai (r_iconst (pc := 68) (by decide +kernel : decode k_P_Reckoning_takeTasks.2.1 68 = .ok (.iconst (-1), 1)) ic_m1) ?_
  obtain ⟨g10, h⟩ := gd_some h
  have c11 := (PC_34 hL).1
  have c12 := (PC_34 hL).2
  obtain ⟨m13, hm13, h⟩ := vb_some h
  have hL : PL m13 := by rw [hm13]; exact hL
  refine ai (p_iast (pc := 69) hm13 (by decide +kernel : decode k_P_Reckoning_takeTasks.2.1 69 = .ok (.iastore, 1)) c11 c12 g10) ?_
  refine ai (p_aload_n (pc := 70) (k := 1) (by decide +kernel : decode k_P_Reckoning_takeTasks.2.1 70 = .ok (.aload_n 0, 1)) rfl rfl) ?_
  refine ai (p_getr (pc := 71) (PR_1036_28 hL) (by decide +kernel : decode k_P_Reckoning_takeTasks.2.1 71 = .ok (.getfield 36, 3)) lg_8_36 (PC_28 hL).1) ?_
  refine ai (r_iload_n (pc := 74) (k := 3) (by decide +kernel : decode k_P_Reckoning_takeTasks.2.1 74 = .ok (.iload_n 3, 1)) rfl rfl) ?_
  refine ai (r_null (pc := 75) (by decide +kernel : decode k_P_Reckoning_takeTasks.2.1 75 = .ok (.aconst_null, 1))) ?_
  obtain ⟨g14, h⟩ := gd_some h
  have c15 := (PC_35 hL).1
  have c16 := (PC_35 hL).2
  obtain ⟨m17, hm17, h⟩ := vb_some h
  have hL : PL m17 := by rw [hm17]; exact hL
  refine ai (p_aastn (pc := 76) (j := 1) (by decide) hm17 (by decide +kernel : decode k_P_Reckoning_takeTasks.2.1 76 = .ok (.aastore, 1)) c15 c16 g14) ?_
  refine ai (p_aload_n (pc := 77) (k := 1) (by decide +kernel : decode k_P_Reckoning_takeTasks.2.1 77 = .ok (.aload_n 0, 1)) rfl rfl) ?_
  refine ai (p_getr (pc := 78) (PR_1037_28 hL) (by decide +kernel : decode k_P_Reckoning_takeTasks.2.1 78 = .ok (.getfield 39, 3)) lg_8_39 (PC_28 hL).1) ?_
  refine ai (r_iload_n (pc := 81) (k := 3) (by decide +kernel : decode k_P_Reckoning_takeTasks.2.1 81 = .ok (.iload_n 3, 1)) rfl rfl) ?_
  refine ai (r_iconst (pc := 82) (by decide +kernel : decode k_P_Reckoning_takeTasks.2.1 82 = .ok (.iconst (-1), 1)) ic_m1) ?_
  obtain ⟨g18, h⟩ := gd_some h
  have c19 := (PC_36 hL).1
  have c20 := (PC_36 hL).2
  obtain ⟨m21, hm21, h⟩ := vb_some h
  have hL : PL m21 := by rw [hm21]; exact hL
  refine ai (p_iast (pc := 83) hm21 (by decide +kernel : decode k_P_Reckoning_takeTasks.2.1 83 = .ok (.iastore, 1)) c19 c20 g18) ?_
  refine ai (p_aload_n (pc := 84) (k := 1) (by decide +kernel : decode k_P_Reckoning_takeTasks.2.1 84 = .ok (.aload_n 0, 1)) rfl rfl) ?_
  refine ai (p_getr (pc := 85) (PR_1038_28 hL) (by decide +kernel : decode k_P_Reckoning_takeTasks.2.1 85 = .ok (.getfield 42, 3)) lg_8_42 (PC_28 hL).1) ?_
  refine ai (r_iload_n (pc := 88) (k := 3) (by decide +kernel : decode k_P_Reckoning_takeTasks.2.1 88 = .ok (.iload_n 3, 1)) rfl rfl) ?_
  refine ai (r_null (pc := 89) (by decide +kernel : decode k_P_Reckoning_takeTasks.2.1 89 = .ok (.aconst_null, 1))) ?_
  obtain ⟨g22, h⟩ := gd_some h
  have c23 := (PC_37 hL).1
  have c24 := (PC_37 hL).2
  obtain ⟨m25, hm25, h⟩ := vb_some h
  have hL : PL m25 := by rw [hm25]; exact hL
  refine ai (p_aastn (pc := 90) (j := 1) (by decide) hm25 (by decide +kernel : decode k_P_Reckoning_takeTasks.2.1 90 = .ok (.aastore, 1)) c23 c24 g22) ?_
  refine ai (p_aload_n (pc := 91) (k := 1) (by decide +kernel : decode k_P_Reckoning_takeTasks.2.1 91 = .ok (.aload_n 0, 1)) rfl rfl) ?_
  refine ai (p_getr (pc := 92) (PR_1039_28 hL) (by decide +kernel : decode k_P_Reckoning_takeTasks.2.1 92 = .ok (.getfield 45, 3)) lg_8_45 (PC_28 hL).1) ?_
  refine ai (r_iload_n (pc := 95) (k := 3) (by decide +kernel : decode k_P_Reckoning_takeTasks.2.1 95 = .ok (.iload_n 3, 1)) rfl rfl) ?_
  refine ai (r_iconst (pc := 96) (by decide +kernel : decode k_P_Reckoning_takeTasks.2.1 96 = .ok (.iconst 0, 1)) ic_0) ?_
  obtain ⟨g26, h⟩ := gd_some h
  have c27 := (PC_38 hL).1
  have c28 := (PC_38 hL).2
  obtain ⟨m29, hm29, h⟩ := vb_some h
  have hL : PL m29 := by rw [hm29]; exact hL
  refine ai (p_iast (pc := 97) hm29 (by decide +kernel : decode k_P_Reckoning_takeTasks.2.1 97 = .ok (.iastore, 1)) c27 c28 g26) ?_
  obtain ⟨v30, hv30, h⟩ := vb_some h
  refine ai (e_iinc (pc := 98) (k := 3) hv30 ic_1 (by decide +kernel : decode k_P_Reckoning_takeTasks.2.1 98 = .ok (.iinc 3 (1), 3)) rfl (by decide) rfl (ls2 := [(3, .int v30), (2, .int v1), (0, .ref 28), (1, .int x1)]) (i := 3)) ?_
  refine ai (r_goto (pc := 101) (tgt := 4) (by decide +kernel : decode k_P_Reckoning_takeTasks.2.1 101 = .ok (.goto (-97), 3)) (by decide)) ?_
  exact (ai (r_sub [2, 3, 1, 0] rfl) (hk4 x1 v1 v30 m29 _ _ hL h))
set_option maxRecDepth 100000 in
set_option maxHeartbeats 4000000 in
theorem P_Reckoning_takeTasks_4_run {n : Nat} {x1 : Int32} {x2 : Int32} {x3 : Int32} {m m' : Mem} {r : Unit} (hL : PL m) (h : P_Reckoning_takeTasks_4 n x1 x2 x3 m = some (r, m')) : Run k_P_Reckoning_takeTasks 4 [(0, .ref 28), (1, .int x1), (2, .int x2), (3, .int x3)] [] m none m' ∧ PL m' := by
  induction n generalizing x1 x2 x3 m r m' with
  | zero => exact absurd h (by simp [P_Reckoning_takeTasks_4])
  | succ n ih =>
    rw [P_Reckoning_takeTasks_4.eq_2] at h
    refine ai (r_iload_n (pc := 4) (k := 3) (by decide +kernel : decode k_P_Reckoning_takeTasks.2.1 4 = .ok (.iload_n 3, 1)) rfl rfl) ?_
    refine ai (r_bipush (pc := 5) (by decide +kernel : decode k_P_Reckoning_takeTasks.2.1 5 = .ok (.bipush (48), 2)) (by decide : _ = (48 : Int32))) ?_
    rcases ite_some h with ⟨c1, h⟩ | ⟨c1, h⟩
    · refine ai (r_icmp_ge_t (pc := 7) (tgt := 104) (by decide +kernel : decode k_P_Reckoning_takeTasks.2.1 7 = .ok (.if_icmp .ge (97), 3)) (by decide) c1) ?_
      cases h
      exact ⟨r_vret rfl (by decide +kernel : decode k_P_Reckoning_takeTasks.2.1 104 = .ok (.return_, 1)), hL⟩
    · refine ai (r_icmp_ge_f (pc := 7) 104 (by decide +kernel : decode k_P_Reckoning_takeTasks.2.1 7 = .ok (.if_icmp .ge (97), 3)) (by decide) c1) ?_
      refine ai (p_aload_n (pc := 10) (k := 0) (by decide +kernel : decode k_P_Reckoning_takeTasks.2.1 10 = .ok (.aload_n 0, 1)) rfl rfl) ?_
      refine ai (p_getr (pc := 11) (PR_1030_28 hL) (by decide +kernel : decode k_P_Reckoning_takeTasks.2.1 11 = .ok (.getfield 17, 3)) lg_8_17 (PC_28 hL).1) ?_
      refine ai (r_iload_n (pc := 14) (k := 3) (by decide +kernel : decode k_P_Reckoning_takeTasks.2.1 14 = .ok (.iload_n 3, 1)) rfl rfl) ?_
      refine ai (p_aload_n (pc := 15) (k := 0) (by decide +kernel : decode k_P_Reckoning_takeTasks.2.1 15 = .ok (.aload_n 0, 1)) rfl rfl) ?_
      refine ai (r_iload_n (pc := 16) (k := 1) (by decide +kernel : decode k_P_Reckoning_takeTasks.2.1 16 = .ok (.iload_n 1, 1)) rfl rfl) ?_
      refine ai (r_iload_n (pc := 17) (k := 3) (by decide +kernel : decode k_P_Reckoning_takeTasks.2.1 17 = .ok (.iload_n 3, 1)) rfl rfl) ?_
      obtain ⟨r2, m3, hr2, h⟩ := bn_some h
      have q4 := P_Reckoning_doneIn_run hL hr2
      have c5 := (PC_28 hL).1
      have hL := q4.2
      refine ai (q_callV (pc := 18) (As := [.int x1, .int x3]) (st := [.int x3, .ref 30]) (st2 := [.int r2, .int x3, .ref 30]) (b := 28) rfl rfl (by decide +kernel : decode k_P_Reckoning_takeTasks.2.1 18 = .ok (.invokevirtual 182, 3)) lc_8_182 mo_P_Reckoning_doneIn ⟨Nat.le_of_ble_eq_true rfl, Nat.le_of_ble_eq_true rfl⟩ (Nat.le_of_ble_eq_true rfl) (Nat.le_of_ble_eq_true rfl) c5 q4.1) ?_
      obtain ⟨g6, h⟩ := gd_some h
      have c7 := (PC_30 hL).1
      have c8 := (PC_30 hL).2
      obtain ⟨m9, hm9, h⟩ := vb_some h
      have hL : PL m9 := by rw [hm9]; exact hL
      refine ai (p_iast (pc := 21) hm9 (by decide +kernel : decode k_P_Reckoning_takeTasks.2.1 21 = .ok (.iastore, 1)) c7 c8 g6) ?_
      refine ai (p_aload_n (pc := 22) (k := 0) (by decide +kernel : decode k_P_Reckoning_takeTasks.2.1 22 = .ok (.aload_n 0, 1)) rfl rfl) ?_
      refine ai (p_getr (pc := 23) (PR_1031_28 hL) (by decide +kernel : decode k_P_Reckoning_takeTasks.2.1 23 = .ok (.getfield 21, 3)) lg_8_21 (PC_28 hL).1) ?_
      refine ai (r_iload_n (pc := 26) (k := 3) (by decide +kernel : decode k_P_Reckoning_takeTasks.2.1 26 = .ok (.iload_n 3, 1)) rfl rfl) ?_
      refine ai (r_iload_n (pc := 27) (k := 2) (by decide +kernel : decode k_P_Reckoning_takeTasks.2.1 27 = .ok (.iload_n 2, 1)) rfl rfl) ?_
      obtain ⟨g10, h⟩ := gd_some h
      have c11 := (PC_31 hL).1
      have c12 := (PC_31 hL).2
      obtain ⟨m13, hm13, h⟩ := vb_some h
      have hL : PL m13 := by rw [hm13]; exact hL
      refine ai (p_iast (pc := 28) hm13 (by decide +kernel : decode k_P_Reckoning_takeTasks.2.1 28 = .ok (.iastore, 1)) c11 c12 g10) ?_
      refine ai (r_iload_n (pc := 29) (k := 2) (by decide +kernel : decode k_P_Reckoning_takeTasks.2.1 29 = .ok (.iload_n 2, 1)) rfl rfl) ?_
      refine ai (p_aload_n (pc := 30) (k := 0) (by decide +kernel : decode k_P_Reckoning_takeTasks.2.1 30 = .ok (.aload_n 0, 1)) rfl rfl) ?_
      refine ai (p_getr (pc := 31) (PR_1030_28 hL) (by decide +kernel : decode k_P_Reckoning_takeTasks.2.1 31 = .ok (.getfield 17, 3)) lg_8_17 (PC_28 hL).1) ?_
      refine ai (r_iload_n (pc := 34) (k := 3) (by decide +kernel : decode k_P_Reckoning_takeTasks.2.1 34 = .ok (.iload_n 3, 1)) rfl rfl) ?_
      obtain ⟨g14, h⟩ := gd_some h
      refine ai (p_iald (pc := 35) (by decide +kernel : decode k_P_Reckoning_takeTasks.2.1 35 = .ok (.iaload, 1)) (PC_30 hL).1 (PC_30 hL).2 g14) ?_
      obtain ⟨r15, hr15, h⟩ := bp_some h
      refine ai (q_callSN (pc := 36) (As := [.int (aI m13 30 (ix x3))]) (st := [.int x2]) (st2 := [.int r15, .int x2]) rfl rfl (by decide +kernel : decode k_P_Reckoning_takeTasks.2.1 36 = .ok (.invokestatic 89, 3)) lc_8_89 mo_P_isTask ⟨Nat.le_of_ble_eq_true rfl, Nat.le_of_ble_eq_true rfl⟩ (Nat.le_of_ble_eq_true rfl) (Nat.le_of_ble_eq_true rfl) (P_isTask_run hr15)) ?_
      rcases ite_some h with ⟨c16, h⟩ | ⟨c16, h⟩
      · refine ai (r_if_eq_t (pc := 39) (tgt := 46) (by decide +kernel : decode k_P_Reckoning_takeTasks.2.1 39 = .ok (.ifCond .eq (7), 3)) (by decide) c16) ?_
        refine ai (r_iconst (pc := 46) (by decide +kernel : decode k_P_Reckoning_takeTasks.2.1 46 = .ok (.iconst 0, 1)) ic_0) ?_
        exact (ai (r_sub [0, 1, 3] rfl) (P_Reckoning_takeTasks_47_run (fun _ _ _ _ _ _ q1 q3 => ih q1 q3) hL h))
      · refine ai (r_if_eq_f (pc := 39) 46 (by decide +kernel : decode k_P_Reckoning_takeTasks.2.1 39 = .ok (.ifCond .eq (7), 3)) (by decide) c16) ?_
        refine ai (r_iconst (pc := 42) (by decide +kernel : decode k_P_Reckoning_takeTasks.2.1 42 = .ok (.iconst 1, 1)) ic_1) ?_
        refine ai (r_goto (pc := 43) (tgt := 47) (by decide +kernel : decode k_P_Reckoning_takeTasks.2.1 43 = .ok (.goto (4), 3)) (by decide)) ?_
        exact (ai (r_sub [0, 1, 3] rfl) (P_Reckoning_takeTasks_47_run (fun _ _ _ _ _ _ q1 q3 => ih q1 q3) hL h))
set_option maxRecDepth 100000 in
set_option maxHeartbeats 4000000 in
theorem P_Reckoning_takeTasks_run {x1 : Int32} {m m' : Mem} {r : Unit} (hL : PL m) (h : P_Reckoning_takeTasks x1 m = some (r, m')) : Run k_P_Reckoning_takeTasks 0 [(0, .ref 28), (1, .int x1)] [] m none m' ∧ PL m' := by
  unfold P_Reckoning_takeTasks at h
  refine ai (r_iconst (pc := 0) (by decide +kernel : decode k_P_Reckoning_takeTasks.2.1 0 = .ok (.iconst 0, 1)) ic_0) ?_
  refine ai (e_istore_n (pc := 1) rfl (by decide +kernel : decode k_P_Reckoning_takeTasks.2.1 1 = .ok (.istore_n 2, 1)) rfl (by decide) rfl (ls2 := [(2, .int 0), (0, .ref 28), (1, .int x1)]) (i := 2)) ?_
  refine ai (r_iconst (pc := 2) (by decide +kernel : decode k_P_Reckoning_takeTasks.2.1 2 = .ok (.iconst 0, 1)) ic_0) ?_
  refine ai (e_istore_n (pc := 3) rfl (by decide +kernel : decode k_P_Reckoning_takeTasks.2.1 3 = .ok (.istore_n 3, 1)) rfl (by decide) rfl (ls2 := [(3, .int 0), (2, .int 0), (0, .ref 28), (1, .int x1)]) (i := 3)) ?_
  exact (ai (r_sub [2, 3, 1, 0] rfl) (P_Reckoning_takeTasks_4_run hL h))
set_option maxRecDepth 100000 in
set_option maxHeartbeats 4000000 in
theorem P_Scene_copyVars_run {x1 : Option Nat} {m m' : Mem} {r : Unit} (hL : PL m) (h : P_Scene_copyVars x1 m = some (r, m')) : Run k_P_Scene_copyVars 0 [(0, .ref 25), (1, va_rf x1)] [] m none m' ∧ PL m' := by
  unfold P_Scene_copyVars at h
  refine ai (p_aload_n (pc := 0) (k := 0) (by decide +kernel : decode k_P_Scene_copyVars.2.1 0 = .ok (.aload_n 0, 1)) rfl rfl) ?_
  refine ai (p_getr (pc := 1) (PR_1156_25 hL) (by decide +kernel : decode k_P_Scene_copyVars.2.1 1 = .ok (.getfield 15, 3)) lg_9_15 (PC_25 hL).1) ?_
  refine ai (r_iconst (pc := 4) (by decide +kernel : decode k_P_Scene_copyVars.2.1 4 = .ok (.iconst 0, 1)) ic_0) ?_
  obtain ⟨a1, rfl, hha1⟩ := gs_some h
  have h := hha1
  refine ai (p_aload_n (pc := 5) (k := 1) (by decide +kernel : decode k_P_Scene_copyVars.2.1 5 = .ok (.aload_n 1, 1)) rfl rfl) ?_
  refine ai (r_iconst (pc := 6) (by decide +kernel : decode k_P_Scene_copyVars.2.1 6 = .ok (.iconst 0, 1)) ic_0) ?_
  refine ai (r_bipush (pc := 7) (by decide +kernel : decode k_P_Scene_copyVars.2.1 7 = .ok (.bipush (12), 2)) (by decide : _ = (12 : Int32))) ?_
  obtain ⟨t2, h⟩ := gt_some h
  have c3 := (PC_27 hL).1
  obtain ⟨g4, h⟩ := gd_some h
  obtain ⟨m5, hm5, h⟩ := vb_some h
  have hL : PL m5 := by rw [hm5]; exact hL
  have t6 : mT m5 a1 = 32 := by rw [hm5]; exact t2
  refine ai (r_acopy (pc := 9) hm5 (by decide +kernel : decode k_P_Scene_copyVars.2.1 9 = .ok (.invokestatic 58, 3)) ly_9_58 ly_nat ly_st ly_ini ⟨by decide, by decide⟩ (Nat.le_of_ble_eq_true rfl) c3 t2 g4) ?_
  cases h
  exact ⟨r_vret rfl (by decide +kernel : decode k_P_Scene_copyVars.2.1 12 = .ok (.return_, 1)), hL⟩
set_option maxRecDepth 100000 in
set_option maxHeartbeats 4000000 in
theorem P_Ledger_lastWet_66_run {k6 : Int32 → Int32 → Int32 → Int32 → Int32 → Mem → Option (Int32 × Mem)} {x1 : Int32} {x2 : Int32} {x3 : Int32} {x4 : Int32} {x5 : Int32} {m m' : Mem} {r : Int32} (hk6 : ∀ (x1 : Int32) (x2 : Int32) (x3 : Int32) (x4 : Int32) (x5 : Int32) (m : Mem) (r : Int32) (m' : Mem), PL m → k6 x1 x2 x3 x4 x5 m = some (r, m') → Run k_P_Ledger_lastWet 6 [(0, .ref 13), (1, .int x1), (2, .int x2), (3, .int x3), (4, .int x4), (5, .int x5)] [] m (some (.int r)) m' ∧ PL m') (hL : PL m) (h : P_Ledger_lastWet_66 k6 x1 x2 x3 x4 x5 m = some (r, m')) : Run k_P_Ledger_lastWet 66 [(0, .ref 13), (1, .int x1), (2, .int x2), (3, .int x3), (4, .int x4), (5, .int x5)] [] m (some (.int r)) m' ∧ PL m' := by
  unfold P_Ledger_lastWet_66 at h
  obtain ⟨v1, hv1, h⟩ := vb_some h
  refine ai (e_iinc (pc := 66) (k := 5) hv1 ic_1 (by decide +kernel : decode k_P_Ledger_lastWet.2.1 66 = .ok (.iinc 5 (1), 3)) rfl (by decide) rfl (ls2 := [(5, .int v1), (0, .ref 13), (1, .int x1), (2, .int x2), (3, .int x3), (4, .int x4)]) (i := 5)) ?_
  refine ai (r_goto (pc := 69) (tgt := 6) (by decide +kernel : decode k_P_Ledger_lastWet.2.1 69 = .ok (.goto (-63), 3)) (by decide)) ?_
  exact (ai (r_sub [1, 2, 3, 4, 5, 0] rfl) (hk6 x1 x2 x3 x4 v1 m _ _ hL h))
set_option maxRecDepth 100000 in
set_option maxHeartbeats 4000000 in
theorem P_Ledger_lastWet_6_run {n : Nat} {x1 : Int32} {x2 : Int32} {x3 : Int32} {x4 : Int32} {x5 : Int32} {m m' : Mem} {r : Int32} (hL : PL m) (h : P_Ledger_lastWet_6 n x1 x2 x3 x4 x5 m = some (r, m')) : Run k_P_Ledger_lastWet 6 [(0, .ref 13), (1, .int x1), (2, .int x2), (3, .int x3), (4, .int x4), (5, .int x5)] [] m (some (.int r)) m' ∧ PL m' := by
  induction n generalizing x1 x2 x3 x4 x5 m r m' with
  | zero => exact absurd h (by simp [P_Ledger_lastWet_6])
  | succ n ih =>
    rw [P_Ledger_lastWet_6.eq_2] at h
    refine ai (r_iload (pc := 6) (k := 5) (by decide +kernel : decode k_P_Ledger_lastWet.2.1 6 = .ok (.iload 5, 2)) rfl) ?_
    refine ai (r_iload_n (pc := 8) (k := 3) (by decide +kernel : decode k_P_Ledger_lastWet.2.1 8 = .ok (.iload_n 3, 1)) rfl rfl) ?_
    rcases ite_some h with ⟨c1, h⟩ | ⟨c1, h⟩
    · refine ai (r_icmp_ge_t (pc := 9) (tgt := 72) (by decide +kernel : decode k_P_Ledger_lastWet.2.1 9 = .ok (.if_icmp .ge (63), 3)) (by decide) c1) ?_
      refine ai (r_iload (pc := 72) (k := 4) (by decide +kernel : decode k_P_Ledger_lastWet.2.1 72 = .ok (.iload 4, 2)) rfl) ?_
      cases h
      exact ⟨r_iret rfl (by decide +kernel : decode k_P_Ledger_lastWet.2.1 74 = .ok (.ireturn, 1)), hL⟩
    · refine ai (r_icmp_ge_f (pc := 9) 72 (by decide +kernel : decode k_P_Ledger_lastWet.2.1 9 = .ok (.if_icmp .ge (63), 3)) (by decide) c1) ?_
      refine ai (p_aload_n (pc := 12) (k := 0) (by decide +kernel : decode k_P_Ledger_lastWet.2.1 12 = .ok (.aload_n 0, 1)) rfl rfl) ?_
      refine ai (p_getr (pc := 13) (PR_512_13 hL) (by decide +kernel : decode k_P_Ledger_lastWet.2.1 13 = .ok (.getfield 11, 3)) lg_4_11 (PC_13 hL).1) ?_
      refine ai (r_iload (pc := 16) (k := 5) (by decide +kernel : decode k_P_Ledger_lastWet.2.1 16 = .ok (.iload 5, 2)) rfl) ?_
      obtain ⟨g2, h⟩ := gd_some h
      obtain ⟨a3, o4, h⟩ := gs_some h
      refine ai (p_aaldr (pc := 18) (j := 2) (by decide) o4 (by decide +kernel : decode k_P_Ledger_lastWet.2.1 18 = .ok (.aaload, 1)) (PC_14 hL).1 (PC_14 hL).2 g2) ?_
      obtain ⟨t5, h⟩ := gt_some h
      refine ai (r_getI (pc := 19) (by decide +kernel : decode k_P_Ledger_lastWet.2.1 19 = .ok (.getfield 58, 3)) lg_4_58 (by decide) t5) ?_
      refine ai (r_iconst (pc := 22) (by decide +kernel : decode k_P_Ledger_lastWet.2.1 22 = .ok (.iconst 5, 1)) ic_5) ?_
      rcases ite_some h with ⟨c6, h⟩ | ⟨c6, h⟩
      · refine ai (r_icmp_ne_f (pc := 23) 66 (by decide +kernel : decode k_P_Ledger_lastWet.2.1 23 = .ok (.if_icmp .ne (43), 3)) (by decide) c6) ?_
        refine ai (p_aload_n (pc := 26) (k := 0) (by decide +kernel : decode k_P_Ledger_lastWet.2.1 26 = .ok (.aload_n 0, 1)) rfl rfl) ?_
        refine ai (p_getr (pc := 27) (PR_512_13 hL) (by decide +kernel : decode k_P_Ledger_lastWet.2.1 27 = .ok (.getfield 11, 3)) lg_4_11 (PC_13 hL).1) ?_
        refine ai (r_iload (pc := 30) (k := 5) (by decide +kernel : decode k_P_Ledger_lastWet.2.1 30 = .ok (.iload 5, 2)) rfl) ?_
        obtain ⟨g7, h⟩ := gd_some h
        obtain ⟨a8, o9, h⟩ := gs_some h
        refine ai (p_aaldr (pc := 32) (j := 2) (by decide) o9 (by decide +kernel : decode k_P_Ledger_lastWet.2.1 32 = .ok (.aaload, 1)) (PC_14 hL).1 (PC_14 hL).2 g7) ?_
        obtain ⟨t10, h⟩ := gt_some h
        refine ai (r_getI (pc := 33) (by decide +kernel : decode k_P_Ledger_lastWet.2.1 33 = .ok (.getfield 59, 3)) lg_4_59 (by decide) t10) ?_
        refine ai (r_iload_n (pc := 36) (k := 1) (by decide +kernel : decode k_P_Ledger_lastWet.2.1 36 = .ok (.iload_n 1, 1)) rfl rfl) ?_
        rcases ite_some h with ⟨c11, h⟩ | ⟨c11, h⟩
        · refine ai (r_icmp_ne_f (pc := 37) 66 (by decide +kernel : decode k_P_Ledger_lastWet.2.1 37 = .ok (.if_icmp .ne (29), 3)) (by decide) c11) ?_
          refine ai (p_aload_n (pc := 40) (k := 0) (by decide +kernel : decode k_P_Ledger_lastWet.2.1 40 = .ok (.aload_n 0, 1)) rfl rfl) ?_
          refine ai (p_getr (pc := 41) (PR_512_13 hL) (by decide +kernel : decode k_P_Ledger_lastWet.2.1 41 = .ok (.getfield 11, 3)) lg_4_11 (PC_13 hL).1) ?_
          refine ai (r_iload (pc := 44) (k := 5) (by decide +kernel : decode k_P_Ledger_lastWet.2.1 44 = .ok (.iload 5, 2)) rfl) ?_
          obtain ⟨g12, h⟩ := gd_some h
          obtain ⟨a13, o14, h⟩ := gs_some h
          refine ai (p_aaldr (pc := 46) (j := 2) (by decide) o14 (by decide +kernel : decode k_P_Ledger_lastWet.2.1 46 = .ok (.aaload, 1)) (PC_14 hL).1 (PC_14 hL).2 g12) ?_
          obtain ⟨t15, h⟩ := gt_some h
          refine ai (r_getI (pc := 47) (by decide +kernel : decode k_P_Ledger_lastWet.2.1 47 = .ok (.getfield 65, 3)) lg_4_65 (by decide) t15) ?_
          refine ai (r_iload_n (pc := 50) (k := 2) (by decide +kernel : decode k_P_Ledger_lastWet.2.1 50 = .ok (.iload_n 2, 1)) rfl rfl) ?_
          rcases ite_some h with ⟨c16, h⟩ | ⟨c16, h⟩
          · refine ai (r_icmp_ne_f (pc := 51) 66 (by decide +kernel : decode k_P_Ledger_lastWet.2.1 51 = .ok (.if_icmp .ne (15), 3)) (by decide) c16) ?_
            refine ai (p_aload_n (pc := 54) (k := 0) (by decide +kernel : decode k_P_Ledger_lastWet.2.1 54 = .ok (.aload_n 0, 1)) rfl rfl) ?_
            refine ai (p_getr (pc := 55) (PR_512_13 hL) (by decide +kernel : decode k_P_Ledger_lastWet.2.1 55 = .ok (.getfield 11, 3)) lg_4_11 (PC_13 hL).1) ?_
            refine ai (r_iload (pc := 58) (k := 5) (by decide +kernel : decode k_P_Ledger_lastWet.2.1 58 = .ok (.iload 5, 2)) rfl) ?_
            obtain ⟨g17, h⟩ := gd_some h
            obtain ⟨a18, o19, h⟩ := gs_some h
            refine ai (p_aaldr (pc := 60) (j := 2) (by decide) o19 (by decide +kernel : decode k_P_Ledger_lastWet.2.1 60 = .ok (.aaload, 1)) (PC_14 hL).1 (PC_14 hL).2 g17) ?_
            obtain ⟨t20, h⟩ := gt_some h
            refine ai (r_getI (pc := 61) (by decide +kernel : decode k_P_Ledger_lastWet.2.1 61 = .ok (.getfield 68, 3)) lg_4_68 (by decide) t20) ?_
            obtain ⟨v21, hv21, h⟩ := vb_some h
            refine ai (e_istore (pc := 64) hv21 (by decide +kernel : decode k_P_Ledger_lastWet.2.1 64 = .ok (.istore 4, 2)) (by decide) rfl (ls2 := [(4, .int v21), (0, .ref 13), (1, .int x1), (2, .int x2), (3, .int x3), (5, .int x5)]) (i := 4)) ?_
            exact (ai (r_sub [1, 2, 3, 4, 0, 5] rfl) (P_Ledger_lastWet_66_run (fun _ _ _ _ _ _ _ _ q1 q3 => ih q1 q3) hL h))
          · refine ai (r_icmp_ne_t (pc := 51) (tgt := 66) (by decide +kernel : decode k_P_Ledger_lastWet.2.1 51 = .ok (.if_icmp .ne (15), 3)) (by decide) c16) ?_
            exact (P_Ledger_lastWet_66_run (fun _ _ _ _ _ _ _ _ q1 q3 => ih q1 q3) hL h)
        · refine ai (r_icmp_ne_t (pc := 37) (tgt := 66) (by decide +kernel : decode k_P_Ledger_lastWet.2.1 37 = .ok (.if_icmp .ne (29), 3)) (by decide) c11) ?_
          exact (P_Ledger_lastWet_66_run (fun _ _ _ _ _ _ _ _ q1 q3 => ih q1 q3) hL h)
      · refine ai (r_icmp_ne_t (pc := 23) (tgt := 66) (by decide +kernel : decode k_P_Ledger_lastWet.2.1 23 = .ok (.if_icmp .ne (43), 3)) (by decide) c6) ?_
        exact (P_Ledger_lastWet_66_run (fun _ _ _ _ _ _ _ _ q1 q3 => ih q1 q3) hL h)
set_option maxRecDepth 100000 in
set_option maxHeartbeats 4000000 in
theorem P_Ledger_lastWet_run {x1 : Int32} {x2 : Int32} {x3 : Int32} {m m' : Mem} {r : Int32} (hL : PL m) (h : P_Ledger_lastWet x1 x2 x3 m = some (r, m')) : Run k_P_Ledger_lastWet 0 [(0, .ref 13), (1, .int x1), (2, .int x2), (3, .int x3)] [] m (some (.int r)) m' ∧ PL m' := by
  unfold P_Ledger_lastWet at h
  refine ai (r_iconst (pc := 0) (by decide +kernel : decode k_P_Ledger_lastWet.2.1 0 = .ok (.iconst 0, 1)) ic_0) ?_
  refine ai (e_istore (pc := 1) rfl (by decide +kernel : decode k_P_Ledger_lastWet.2.1 1 = .ok (.istore 4, 2)) (by decide) rfl (ls2 := [(4, .int 0), (0, .ref 13), (1, .int x1), (2, .int x2), (3, .int x3)]) (i := 4)) ?_
  refine ai (r_iconst (pc := 3) (by decide +kernel : decode k_P_Ledger_lastWet.2.1 3 = .ok (.iconst 0, 1)) ic_0) ?_
  refine ai (e_istore (pc := 4) rfl (by decide +kernel : decode k_P_Ledger_lastWet.2.1 4 = .ok (.istore 5, 2)) (by decide) rfl (ls2 := [(5, .int 0), (4, .int 0), (0, .ref 13), (1, .int x1), (2, .int x2), (3, .int x3)]) (i := 5)) ?_
  exact (ai (r_sub [2, 3, 4, 5, 1, 0] rfl) (P_Ledger_lastWet_6_run hL h))
set_option maxRecDepth 100000 in
set_option maxHeartbeats 4000000 in
theorem P_Reckoning_lookAt_run {x1 : Int32} {m m' : Mem} {r : Unit} (hL : PL m) (h : P_Reckoning_lookAt x1 m = some (r, m')) : Run k_P_Reckoning_lookAt 0 [(0, .ref 28), (1, .int x1)] [] m none m' ∧ PL m' := by
  unfold P_Reckoning_lookAt at h
  refine ai (p_aload_n (pc := 0) (k := 0) (by decide +kernel : decode k_P_Reckoning_lookAt.2.1 0 = .ok (.aload_n 0, 1)) rfl rfl) ?_
  refine ai (p_getr (pc := 1) (PR_1040_28 hL) (by decide +kernel : decode k_P_Reckoning_lookAt.2.1 1 = .ok (.getfield 48, 3)) lg_8_48 (PC_28 hL).1) ?_
  refine ai (r_iconst (pc := 4) (by decide +kernel : decode k_P_Reckoning_lookAt.2.1 4 = .ok (.iconst 5, 1)) ic_5) ?_
  refine ai (p_aload_n (pc := 5) (k := 0) (by decide +kernel : decode k_P_Reckoning_lookAt.2.1 5 = .ok (.aload_n 0, 1)) rfl rfl) ?_
  refine ai (p_getr (pc := 6) (PR_1030_28 hL) (by decide +kernel : decode k_P_Reckoning_lookAt.2.1 6 = .ok (.getfield 17, 3)) lg_8_17 (PC_28 hL).1) ?_
  refine ai (r_iload_n (pc := 9) (k := 1) (by decide +kernel : decode k_P_Reckoning_lookAt.2.1 9 = .ok (.iload_n 1, 1)) rfl rfl) ?_
  obtain ⟨g1, h⟩ := gd_some h
  refine ai (p_iald (pc := 10) (by decide +kernel : decode k_P_Reckoning_lookAt.2.1 10 = .ok (.iaload, 1)) (PC_30 hL).1 (PC_30 hL).2 g1) ?_
  obtain ⟨g2, h⟩ := gd_some h
  have c3 := (PC_39 hL).1
  have c4 := (PC_39 hL).2
  obtain ⟨m5, hm5, h⟩ := vb_some h
  have hL : PL m5 := by rw [hm5]; exact hL
  refine ai (p_iast (pc := 11) hm5 (by decide +kernel : decode k_P_Reckoning_lookAt.2.1 11 = .ok (.iastore, 1)) c3 c4 g2) ?_
  refine ai (p_aload_n (pc := 12) (k := 0) (by decide +kernel : decode k_P_Reckoning_lookAt.2.1 12 = .ok (.aload_n 0, 1)) rfl rfl) ?_
  refine ai (p_getr (pc := 13) (PR_1040_28 hL) (by decide +kernel : decode k_P_Reckoning_lookAt.2.1 13 = .ok (.getfield 48, 3)) lg_8_48 (PC_28 hL).1) ?_
  refine ai (r_bipush (pc := 16) (by decide +kernel : decode k_P_Reckoning_lookAt.2.1 16 = .ok (.bipush (7), 2)) (by decide : _ = (7 : Int32))) ?_
  refine ai (r_iload_n (pc := 18) (k := 1) (by decide +kernel : decode k_P_Reckoning_lookAt.2.1 18 = .ok (.iload_n 1, 1)) rfl rfl) ?_
  obtain ⟨g6, h⟩ := gd_some h
  have c7 := (PC_39 hL).1
  have c8 := (PC_39 hL).2
  obtain ⟨m9, hm9, h⟩ := vb_some h
  have hL : PL m9 := by rw [hm9]; exact hL
  refine ai (p_iast (pc := 19) hm9 (by decide +kernel : decode k_P_Reckoning_lookAt.2.1 19 = .ok (.iastore, 1)) c7 c8 g6) ?_
  refine ai (p_aload_n (pc := 20) (k := 0) (by decide +kernel : decode k_P_Reckoning_lookAt.2.1 20 = .ok (.aload_n 0, 1)) rfl rfl) ?_
  refine ai (p_getr (pc := 21) (PR_1040_28 hL) (by decide +kernel : decode k_P_Reckoning_lookAt.2.1 21 = .ok (.getfield 48, 3)) lg_8_48 (PC_28 hL).1) ?_
  refine ai (r_bipush (pc := 24) (by decide +kernel : decode k_P_Reckoning_lookAt.2.1 24 = .ok (.bipush (8), 2)) (by decide : _ = (8 : Int32))) ?_
  refine ai (p_aload_n (pc := 26) (k := 0) (by decide +kernel : decode k_P_Reckoning_lookAt.2.1 26 = .ok (.aload_n 0, 1)) rfl rfl) ?_
  refine ai (p_getr (pc := 27) (PR_1031_28 hL) (by decide +kernel : decode k_P_Reckoning_lookAt.2.1 27 = .ok (.getfield 21, 3)) lg_8_21 (PC_28 hL).1) ?_
  refine ai (r_iload_n (pc := 30) (k := 1) (by decide +kernel : decode k_P_Reckoning_lookAt.2.1 30 = .ok (.iload_n 1, 1)) rfl rfl) ?_
  obtain ⟨g10, h⟩ := gd_some h
  refine ai (p_iald (pc := 31) (by decide +kernel : decode k_P_Reckoning_lookAt.2.1 31 = .ok (.iaload, 1)) (PC_31 hL).1 (PC_31 hL).2 g10) ?_
  obtain ⟨g11, h⟩ := gd_some h
  have c12 := (PC_39 hL).1
  have c13 := (PC_39 hL).2
  obtain ⟨m14, hm14, h⟩ := vb_some h
  have hL : PL m14 := by rw [hm14]; exact hL
  refine ai (p_iast (pc := 32) hm14 (by decide +kernel : decode k_P_Reckoning_lookAt.2.1 32 = .ok (.iastore, 1)) c12 c13 g11) ?_
  refine ai (p_aload_n (pc := 33) (k := 0) (by decide +kernel : decode k_P_Reckoning_lookAt.2.1 33 = .ok (.aload_n 0, 1)) rfl rfl) ?_
  refine ai (p_getr (pc := 34) (PR_1040_28 hL) (by decide +kernel : decode k_P_Reckoning_lookAt.2.1 34 = .ok (.getfield 48, 3)) lg_8_48 (PC_28 hL).1) ?_
  refine ai (r_bipush (pc := 37) (by decide +kernel : decode k_P_Reckoning_lookAt.2.1 37 = .ok (.bipush (9), 2)) (by decide : _ = (9 : Int32))) ?_
  refine ai (p_aload_n (pc := 39) (k := 0) (by decide +kernel : decode k_P_Reckoning_lookAt.2.1 39 = .ok (.aload_n 0, 1)) rfl rfl) ?_
  refine ai (r_getI (pc := 40) (by decide +kernel : decode k_P_Reckoning_lookAt.2.1 40 = .ok (.getfield 155, 3)) lg_8_155 (by decide) (PC_28 hL).1) ?_
  refine ai (p_aload_n (pc := 43) (k := 0) (by decide +kernel : decode k_P_Reckoning_lookAt.2.1 43 = .ok (.aload_n 0, 1)) rfl rfl) ?_
  refine ai (p_getr (pc := 44) (PR_1031_28 hL) (by decide +kernel : decode k_P_Reckoning_lookAt.2.1 44 = .ok (.getfield 21, 3)) lg_8_21 (PC_28 hL).1) ?_
  refine ai (r_iload_n (pc := 47) (k := 1) (by decide +kernel : decode k_P_Reckoning_lookAt.2.1 47 = .ok (.iload_n 1, 1)) rfl rfl) ?_
  obtain ⟨g15, h⟩ := gd_some h
  refine ai (p_iald (pc := 48) (by decide +kernel : decode k_P_Reckoning_lookAt.2.1 48 = .ok (.iaload, 1)) (PC_31 hL).1 (PC_31 hL).2 g15) ?_
  refine ai (r_iadd (pc := 49) (by decide +kernel : decode k_P_Reckoning_lookAt.2.1 49 = .ok (.iadd, 1))) ?_
  obtain ⟨g16, h⟩ := gd_some h
  have c17 := (PC_39 hL).1
  have c18 := (PC_39 hL).2
  obtain ⟨m19, hm19, h⟩ := vb_some h
  have hL : PL m19 := by rw [hm19]; exact hL
  refine ai (p_iast (pc := 50) hm19 (by decide +kernel : decode k_P_Reckoning_lookAt.2.1 50 = .ok (.iastore, 1)) c17 c18 g16) ?_
  refine ai (p_aload_n (pc := 51) (k := 0) (by decide +kernel : decode k_P_Reckoning_lookAt.2.1 51 = .ok (.aload_n 0, 1)) rfl rfl) ?_
  refine ai (p_getr (pc := 52) (PR_1040_28 hL) (by decide +kernel : decode k_P_Reckoning_lookAt.2.1 52 = .ok (.getfield 48, 3)) lg_8_48 (PC_28 hL).1) ?_
  refine ai (r_bipush (pc := 55) (by decide +kernel : decode k_P_Reckoning_lookAt.2.1 55 = .ok (.bipush (11), 2)) (by decide : _ = (11 : Int32))) ?_
  refine ai (r_iconst (pc := 57) (by decide +kernel : decode k_P_Reckoning_lookAt.2.1 57 = .ok (.iconst 0, 1)) ic_0) ?_
  obtain ⟨g20, h⟩ := gd_some h
  have c21 := (PC_39 hL).1
  have c22 := (PC_39 hL).2
  obtain ⟨m23, hm23, h⟩ := vb_some h
  have hL : PL m23 := by rw [hm23]; exact hL
  refine ai (p_iast (pc := 58) hm23 (by decide +kernel : decode k_P_Reckoning_lookAt.2.1 58 = .ok (.iastore, 1)) c21 c22 g20) ?_
  cases h
  exact ⟨r_vret rfl (by decide +kernel : decode k_P_Reckoning_lookAt.2.1 59 = .ok (.return_, 1)), hL⟩
set_option maxRecDepth 100000 in
set_option maxHeartbeats 4000000 in
theorem P_Reckoning_holds_run {x1 : Option Nat} {m m' : Mem} {r : Int32} (hL : PL m) (h : P_Reckoning_holds x1 m = some (r, m')) : Run k_P_Reckoning_holds 0 [(0, .ref 28), (1, va_rf x1)] [] m (some (.int r)) m' ∧ PL m' := by
  unfold P_Reckoning_holds at h
  refine ai (p_aload_n (pc := 0) (k := 0) (by decide +kernel : decode k_P_Reckoning_holds.2.1 0 = .ok (.aload_n 0, 1)) rfl rfl) ?_
  refine ai (p_getr (pc := 1) (PR_1025_28 hL) (by decide +kernel : decode k_P_Reckoning_holds.2.1 1 = .ok (.getfield 58, 3)) lg_8_58 (PC_28 hL).1) ?_
  refine ai (p_getr (pc := 4) (PR_1154_25 hL) (by decide +kernel : decode k_P_Reckoning_holds.2.1 4 = .ok (.getfield 220, 3)) lg_8_220 (PC_25 hL).1) ?_
  obtain ⟨a1, rfl, hha1⟩ := gs_some h
  have h := hha1
  refine ai (p_aload_n (pc := 7) (k := 1) (by decide +kernel : decode k_P_Reckoning_holds.2.1 7 = .ok (.aload_n 1, 1)) rfl rfl) ?_
  obtain ⟨t2, h⟩ := gt_some h
  refine ai (p_getR (pc := 8) (by decide +kernel : decode k_P_Reckoning_holds.2.1 8 = .ok (.getfield 224, 3)) lg_8_224 t2) ?_
  refine ai (p_aload_n (pc := 11) (k := 0) (by decide +kernel : decode k_P_Reckoning_holds.2.1 11 = .ok (.aload_n 0, 1)) rfl rfl) ?_
  refine ai (p_getr (pc := 12) (PR_1040_28 hL) (by decide +kernel : decode k_P_Reckoning_holds.2.1 12 = .ok (.getfield 48, 3)) lg_8_48 (PC_28 hL).1) ?_
  refine ai (p_aload_n (pc := 15) (k := 0) (by decide +kernel : decode k_P_Reckoning_holds.2.1 15 = .ok (.aload_n 0, 1)) rfl rfl) ?_
  refine ai (p_getr (pc := 16) (PR_1025_28 hL) (by decide +kernel : decode k_P_Reckoning_holds.2.1 16 = .ok (.getfield 58, 3)) lg_8_58 (PC_28 hL).1) ?_
  refine ai (p_getr (pc := 19) (PR_1152_25 hL) (by decide +kernel : decode k_P_Reckoning_holds.2.1 19 = .ok (.getfield 122, 3)) lg_8_122 (PC_25 hL).1) ?_
  refine ai (p_getr (pc := 22) (PR_390_5 hL) (by decide +kernel : decode k_P_Reckoning_holds.2.1 22 = .ok (.getfield 227, 3)) lg_8_227 (PC_5 hL).1) ?_
  refine ai (p_aload_n (pc := 25) (k := 0) (by decide +kernel : decode k_P_Reckoning_holds.2.1 25 = .ok (.aload_n 0, 1)) rfl rfl) ?_
  refine ai (r_getI (pc := 26) (by decide +kernel : decode k_P_Reckoning_holds.2.1 26 = .ok (.getfield 62, 3)) lg_8_62 (by decide) (PC_28 hL).1) ?_
  obtain ⟨g3, h⟩ := gd_some h
  refine ai (p_iald (pc := 29) (by decide +kernel : decode k_P_Reckoning_holds.2.1 29 = .ok (.iaload, 1)) (PC_9 hL).1 (PC_9 hL).2 g3) ?_
  obtain ⟨r4, m5, hr4, h⟩ := bn_some h
  have q6 := P_Formula_result_run hL hr4
  have c7 := (PC_1 hL).1
  have hL := q6.2
  refine ai (q_callV (pc := 30) (As := [va_rf (mR m 263 a1), .ref 39, .int (aI m 9 (ix (mI m 1026 28)))]) (st := []) (st2 := [.int r4]) (b := 1) (by simp [lv_args, vrc, vrs, cti, ctr, ctl, ctn, cta]) rfl (by decide +kernel : decode k_P_Reckoning_holds.2.1 30 = .ok (.invokevirtual 230, 3)) lc_8_230 mo_P_Formula_result ⟨Nat.le_of_ble_eq_true rfl, Nat.le_of_ble_eq_true rfl⟩ (by simp [lg_sl, vrc, vrs, cti, ctr, ctl, ctn, cta, k_P_Formula_result]) (Nat.le_of_ble_eq_true rfl) c7 q6.1) ?_
  refine ai (r_iconst (pc := 33) (by decide +kernel : decode k_P_Reckoning_holds.2.1 33 = .ok (.iconst 1, 1)) ic_1) ?_
  rcases ite_some h with ⟨c8, h⟩ | ⟨c8, h⟩
  · refine ai (r_icmp_ne_f (pc := 34) 41 (by decide +kernel : decode k_P_Reckoning_holds.2.1 34 = .ok (.if_icmp .ne (7), 3)) (by decide) c8) ?_
    refine ai (r_iconst (pc := 37) (by decide +kernel : decode k_P_Reckoning_holds.2.1 37 = .ok (.iconst 1, 1)) ic_1) ?_
    refine ai (r_goto (pc := 38) (tgt := 42) (by decide +kernel : decode k_P_Reckoning_holds.2.1 38 = .ok (.goto (4), 3)) (by decide)) ?_
    cases h
    exact ⟨r_zret (by decide) rfl (by decide +kernel : decode k_P_Reckoning_holds.2.1 42 = .ok (.ireturn, 1)), hL⟩
  · refine ai (r_icmp_ne_t (pc := 34) (tgt := 41) (by decide +kernel : decode k_P_Reckoning_holds.2.1 34 = .ok (.if_icmp .ne (7), 3)) (by decide) c8) ?_
    refine ai (r_iconst (pc := 41) (by decide +kernel : decode k_P_Reckoning_holds.2.1 41 = .ok (.iconst 0, 1)) ic_0) ?_
    cases h
    exact ⟨r_zret (by decide) rfl (by decide +kernel : decode k_P_Reckoning_holds.2.1 42 = .ok (.ireturn, 1)), hL⟩
set_option maxRecDepth 100000 in
set_option maxHeartbeats 4000000 in
theorem P_Reckoning_someBindsHolds_37_run {k2 : Option Nat → Int32 → Mem → Option (Int32 × Mem)} {x1 : Option Nat} {x2 : Int32} {m m' : Mem} {r : Int32} (hk2 : ∀ (x1 : Option Nat) (x2 : Int32) (m : Mem) (r : Int32) (m' : Mem), PL m → k2 x1 x2 m = some (r, m') → Run k_P_Reckoning_someBindsHolds 2 [(0, .ref 28), (1, va_rf x1), (2, .int x2)] [] m (some (.int r)) m' ∧ PL m') (hL : PL m) (h : P_Reckoning_someBindsHolds_37 k2 x1 x2 m = some (r, m')) : Run k_P_Reckoning_someBindsHolds 37 [(0, .ref 28), (1, va_rf x1), (2, .int x2)] [] m (some (.int r)) m' ∧ PL m' := by
  unfold P_Reckoning_someBindsHolds_37 at h
  obtain ⟨v1, hv1, h⟩ := vb_some h
  refine ai (e_iinc (pc := 37) (k := 2) hv1 ic_1 (by decide +kernel : decode k_P_Reckoning_someBindsHolds.2.1 37 = .ok (.iinc 2 (1), 3)) rfl (by decide) (by simp [f1, vrc, vrs, cti, ctr, ctl, ctn, cta]) (ls2 := [(2, .int v1), (0, .ref 28), (1, va_rf x1)]) (i := 2)) ?_
  refine ai (r_goto (pc := 40) (tgt := 2) (by decide +kernel : decode k_P_Reckoning_someBindsHolds.2.1 40 = .ok (.goto (-38), 3)) (by decide)) ?_
  exact (ai (r_sub [1, 2, 0] rfl) (hk2 x1 v1 m _ _ hL h))
set_option maxRecDepth 100000 in
set_option maxHeartbeats 4000000 in
theorem P_Reckoning_someBindsHolds_2_run {n : Nat} {x1 : Option Nat} {x2 : Int32} {m m' : Mem} {r : Int32} (hL : PL m) (h : P_Reckoning_someBindsHolds_2 n x1 x2 m = some (r, m')) : Run k_P_Reckoning_someBindsHolds 2 [(0, .ref 28), (1, va_rf x1), (2, .int x2)] [] m (some (.int r)) m' ∧ PL m' := by
  induction n generalizing x1 x2 m r m' with
  | zero => exact absurd h (by simp [P_Reckoning_someBindsHolds_2])
  | succ n ih =>
    rw [P_Reckoning_someBindsHolds_2.eq_2] at h
    refine ai (r_iload_n (pc := 2) (k := 2) (by decide +kernel : decode k_P_Reckoning_someBindsHolds.2.1 2 = .ok (.iload_n 2, 1)) rfl rfl) ?_
    obtain ⟨a1, rfl, hha1⟩ := gs_some h
    have h := hha1
    refine ai (p_aload_n (pc := 3) (k := 1) (by decide +kernel : decode k_P_Reckoning_someBindsHolds.2.1 3 = .ok (.aload_n 1, 1)) rfl rfl) ?_
    obtain ⟨t2, h⟩ := gt_some h
    obtain ⟨a3, o4, h⟩ := gs_some h
    refine ai (p_getr (pc := 4) o4 (by decide +kernel : decode k_P_Reckoning_someBindsHolds.2.1 4 = .ok (.getfield 209, 3)) lg_8_209 t2) ?_
    obtain ⟨t5, h⟩ := gt_some h
    refine ai (p_alen (pc := 7) (by decide +kernel : decode k_P_Reckoning_someBindsHolds.2.1 7 = .ok (.arraylength, 1)) (by rw [t5]; decide) rfl rfl) ?_
    rcases ite_some h with ⟨c6, h⟩ | ⟨c6, h⟩
    · refine ai (r_icmp_ge_t (pc := 8) (tgt := 43) (by decide +kernel : decode k_P_Reckoning_someBindsHolds.2.1 8 = .ok (.if_icmp .ge (35), 3)) (by decide) c6) ?_
      refine ai (r_iconst (pc := 43) (by decide +kernel : decode k_P_Reckoning_someBindsHolds.2.1 43 = .ok (.iconst 0, 1)) ic_0) ?_
      cases h
      exact ⟨r_zret (by decide) rfl (by decide +kernel : decode k_P_Reckoning_someBindsHolds.2.1 44 = .ok (.ireturn, 1)), hL⟩
    · refine ai (r_icmp_ge_f (pc := 8) 43 (by decide +kernel : decode k_P_Reckoning_someBindsHolds.2.1 8 = .ok (.if_icmp .ge (35), 3)) (by decide) c6) ?_
      refine ai (p_aload_n (pc := 11) (k := 1) (by decide +kernel : decode k_P_Reckoning_someBindsHolds.2.1 11 = .ok (.aload_n 1, 1)) rfl rfl) ?_
      obtain ⟨a7, o8, h⟩ := gs_some h
      refine ai (p_getr (pc := 12) o8 (by decide +kernel : decode k_P_Reckoning_someBindsHolds.2.1 12 = .ok (.getfield 209, 3)) lg_8_209 t2) ?_
      refine ai (r_iload_n (pc := 15) (k := 2) (by decide +kernel : decode k_P_Reckoning_someBindsHolds.2.1 15 = .ok (.iload_n 2, 1)) rfl rfl) ?_
      obtain ⟨t9, h⟩ := gt_some h
      obtain ⟨g10, h⟩ := gd_some h
      obtain ⟨a11, o12, h⟩ := gs_some h
      refine ai (p_aaldr (pc := 16) (j := 0) (by decide) o12 (by decide +kernel : decode k_P_Reckoning_someBindsHolds.2.1 16 = .ok (.aaload, 1)) t9 rfl g10) ?_
      refine ai (p_astore_n (pc := 17) (by decide +kernel : decode k_P_Reckoning_someBindsHolds.2.1 17 = .ok (.astore_n 3, 1)) rfl (by decide) rfl (ls2 := [(3, .ref a11), (0, .ref 28), (1, .ref a1), (2, .int x2)]) (i := 3)) ?_
      refine ai (p_aload_n (pc := 18) (k := 0) (by decide +kernel : decode k_P_Reckoning_someBindsHolds.2.1 18 = .ok (.aload_n 3, 1)) rfl rfl) ?_
      obtain ⟨t13, h⟩ := gt_some h
      refine ai (r_getI (pc := 19) (by decide +kernel : decode k_P_Reckoning_someBindsHolds.2.1 19 = .ok (.getfield 213, 3)) lg_8_213 (by decide) t13) ?_
      refine ai (r_bipush (pc := 22) (by decide +kernel : decode k_P_Reckoning_someBindsHolds.2.1 22 = .ok (.bipush (32), 2)) (by decide : _ = (32 : Int32))) ?_
      rcases ite_some h with ⟨c14, h⟩ | ⟨c14, h⟩
      · refine ai (r_icmp_ne_f (pc := 24) 37 (by decide +kernel : decode k_P_Reckoning_someBindsHolds.2.1 24 = .ok (.if_icmp .ne (13), 3)) (by decide) c14) ?_
        refine ai (p_aload_n (pc := 27) (k := 1) (by decide +kernel : decode k_P_Reckoning_someBindsHolds.2.1 27 = .ok (.aload_n 0, 1)) rfl rfl) ?_
        refine ai (p_aload_n (pc := 28) (k := 0) (by decide +kernel : decode k_P_Reckoning_someBindsHolds.2.1 28 = .ok (.aload_n 3, 1)) rfl rfl) ?_
        obtain ⟨r15, m16, hr15, h⟩ := bn_some h
        have q17 := P_Reckoning_holds_run hL hr15
        have c18 := (PC_28 hL).1
        have hL := q17.2
        refine ai (q_callV (pc := 29) (As := [.ref a11]) (st := []) (st2 := [.int r15]) (b := 28) rfl rfl (by decide +kernel : decode k_P_Reckoning_someBindsHolds.2.1 29 = .ok (.invokevirtual 216, 3)) lc_8_216 mo_P_Reckoning_holds ⟨Nat.le_of_ble_eq_true rfl, Nat.le_of_ble_eq_true rfl⟩ (Nat.le_of_ble_eq_true rfl) (Nat.le_of_ble_eq_true rfl) c18 q17.1) ?_
        rcases ite_some h with ⟨c19, h⟩ | ⟨c19, h⟩
        · refine ai (r_if_eq_t (pc := 32) (tgt := 37) (by decide +kernel : decode k_P_Reckoning_someBindsHolds.2.1 32 = .ok (.ifCond .eq (5), 3)) (by decide) c19) ?_
          exact (ai (r_sub [1, 2, 3] rfl) (P_Reckoning_someBindsHolds_37_run (fun _ _ _ _ _ q1 q3 => ih q1 q3) hL h))
        · refine ai (r_if_eq_f (pc := 32) 37 (by decide +kernel : decode k_P_Reckoning_someBindsHolds.2.1 32 = .ok (.ifCond .eq (5), 3)) (by decide) c19) ?_
          refine ai (r_iconst (pc := 35) (by decide +kernel : decode k_P_Reckoning_someBindsHolds.2.1 35 = .ok (.iconst 1, 1)) ic_1) ?_
          cases h
          exact ⟨r_zret (by decide) rfl (by decide +kernel : decode k_P_Reckoning_someBindsHolds.2.1 36 = .ok (.ireturn, 1)), hL⟩
      · refine ai (r_icmp_ne_t (pc := 24) (tgt := 37) (by decide +kernel : decode k_P_Reckoning_someBindsHolds.2.1 24 = .ok (.if_icmp .ne (13), 3)) (by decide) c14) ?_
        exact (ai (r_sub [1, 2, 3] rfl) (P_Reckoning_someBindsHolds_37_run (fun _ _ _ _ _ q1 q3 => ih q1 q3) hL h))
set_option maxRecDepth 100000 in
set_option maxHeartbeats 4000000 in
theorem P_Reckoning_someBindsHolds_run {x1 : Option Nat} {m m' : Mem} {r : Int32} (hL : PL m) (h : P_Reckoning_someBindsHolds x1 m = some (r, m')) : Run k_P_Reckoning_someBindsHolds 0 [(0, .ref 28), (1, va_rf x1)] [] m (some (.int r)) m' ∧ PL m' := by
  unfold P_Reckoning_someBindsHolds at h
  refine ai (r_iconst (pc := 0) (by decide +kernel : decode k_P_Reckoning_someBindsHolds.2.1 0 = .ok (.iconst 0, 1)) ic_0) ?_
  refine ai (e_istore_n (pc := 1) rfl (by decide +kernel : decode k_P_Reckoning_someBindsHolds.2.1 1 = .ok (.istore_n 2, 1)) rfl (by decide) (by simp [f1, vrc, vrs, cti, ctr, ctl, ctn, cta]) (ls2 := [(2, .int 0), (0, .ref 28), (1, va_rf x1)]) (i := 2)) ?_
  exact (ai (r_sub [1, 2, 0] rfl) (P_Reckoning_someBindsHolds_2_run hL h))
set_option maxRecDepth 100000 in
set_option maxHeartbeats 4000000 in
theorem P_Text_isOver_40_run {k2 : Nat → Int32 → Int32 → Mem → Option (Int32 × Mem)} {a0 : Nat} {x1 : Int32} {x2 : Int32} {m m' : Mem} {r : Int32} (hk2 : ∀ (a0 : Nat) (x1 : Int32) (x2 : Int32) (m : Mem) (r : Int32) (m' : Mem), PL m → mT m a0 = 11 → k2 a0 x1 x2 m = some (r, m') → Run k_P_Text_isOver 2 [(0, .ref a0), (1, .int x1), (2, .int x2)] [] m (some (.int r)) m' ∧ PL m') (hL : PL m) (ht : mT m a0 = 11) (h : P_Text_isOver_40 k2 a0 x1 x2 m = some (r, m')) : Run k_P_Text_isOver 40 [(0, .ref a0), (1, .int x1), (2, .int x2)] [] m (some (.int r)) m' ∧ PL m' := by
  unfold P_Text_isOver_40 at h
  obtain ⟨v1, hv1, h⟩ := vb_some h
  refine ai (e_iinc (pc := 40) (k := 2) hv1 ic_1 (by decide +kernel : decode k_P_Text_isOver.2.1 40 = .ok (.iinc 2 (1), 3)) rfl (by decide) rfl (ls2 := [(2, .int v1), (0, .ref a0), (1, .int x1)]) (i := 2)) ?_
  refine ai (r_goto (pc := 43) (tgt := 2) (by decide +kernel : decode k_P_Text_isOver.2.1 43 = .ok (.goto (-41), 3)) (by decide)) ?_
  exact (ai (r_sub [1, 2, 0] rfl) (hk2 a0 x1 v1 m _ _ hL ht h))
set_option maxRecDepth 100000 in
set_option maxHeartbeats 4000000 in
theorem P_Text_isOver_2_run {n : Nat} {a0 : Nat} {x1 : Int32} {x2 : Int32} {m m' : Mem} {r : Int32} (hL : PL m) (ht : mT m a0 = 11) (h : P_Text_isOver_2 n a0 x1 x2 m = some (r, m')) : Run k_P_Text_isOver 2 [(0, .ref a0), (1, .int x1), (2, .int x2)] [] m (some (.int r)) m' ∧ PL m' := by
  induction n generalizing a0 x1 x2 m r m' with
  | zero => exact absurd h (by simp [P_Text_isOver_2])
  | succ n ih =>
    rw [P_Text_isOver_2.eq_2] at h
    refine ai (r_iload_n (pc := 2) (k := 2) (by decide +kernel : decode k_P_Text_isOver.2.1 2 = .ok (.iload_n 2, 1)) rfl rfl) ?_
    refine ai (p_aload_n (pc := 3) (k := 0) (by decide +kernel : decode k_P_Text_isOver.2.1 3 = .ok (.aload_n 0, 1)) rfl rfl) ?_
    obtain ⟨a1, o2, h⟩ := gs_some h
    refine ai (p_getr (pc := 4) o2 (by decide +kernel : decode k_P_Text_isOver.2.1 4 = .ok (.getfield 37, 3)) lg_10_37 ht) ?_
    obtain ⟨t3, h⟩ := gt_some h
    refine ai (p_alen (pc := 7) (by decide +kernel : decode k_P_Text_isOver.2.1 7 = .ok (.arraylength, 1)) (by rw [t3]; decide) rfl rfl) ?_
    rcases ite_some h with ⟨c4, h⟩ | ⟨c4, h⟩
    · refine ai (r_icmp_ge_t (pc := 8) (tgt := 46) (by decide +kernel : decode k_P_Text_isOver.2.1 8 = .ok (.if_icmp .ge (38), 3)) (by decide) c4) ?_
      refine ai (r_iconst (pc := 46) (by decide +kernel : decode k_P_Text_isOver.2.1 46 = .ok (.iconst 0, 1)) ic_0) ?_
      cases h
      exact ⟨r_zret (by decide) rfl (by decide +kernel : decode k_P_Text_isOver.2.1 47 = .ok (.ireturn, 1)), hL⟩
    · refine ai (r_icmp_ge_f (pc := 8) 46 (by decide +kernel : decode k_P_Text_isOver.2.1 8 = .ok (.if_icmp .ge (38), 3)) (by decide) c4) ?_
      refine ai (p_aload_n (pc := 11) (k := 0) (by decide +kernel : decode k_P_Text_isOver.2.1 11 = .ok (.aload_n 0, 1)) rfl rfl) ?_
      obtain ⟨a5, o6, h⟩ := gs_some h
      refine ai (p_getr (pc := 12) o6 (by decide +kernel : decode k_P_Text_isOver.2.1 12 = .ok (.getfield 37, 3)) lg_10_37 ht) ?_
      refine ai (r_iload_n (pc := 15) (k := 2) (by decide +kernel : decode k_P_Text_isOver.2.1 15 = .ok (.iload_n 2, 1)) rfl rfl) ?_
      obtain ⟨t7, h⟩ := gt_some h
      obtain ⟨g8, h⟩ := gd_some h
      obtain ⟨a9, o10, h⟩ := gs_some h
      refine ai (p_aaldr (pc := 16) (j := 0) (by decide) o10 (by decide +kernel : decode k_P_Text_isOver.2.1 16 = .ok (.aaload, 1)) t7 rfl g8) ?_
      obtain ⟨t11, h⟩ := gt_some h
      refine ai (r_getI (pc := 17) (by decide +kernel : decode k_P_Text_isOver.2.1 17 = .ok (.getfield 64, 3)) lg_10_64 (by decide) t11) ?_
      refine ai (r_bipush (pc := 20) (by decide +kernel : decode k_P_Text_isOver.2.1 20 = .ok (.bipush (33), 2)) (by decide : _ = (33 : Int32))) ?_
      rcases ite_some h with ⟨c12, h⟩ | ⟨c12, h⟩
      · refine ai (r_icmp_ne_f (pc := 22) 40 (by decide +kernel : decode k_P_Text_isOver.2.1 22 = .ok (.if_icmp .ne (18), 3)) (by decide) c12) ?_
        refine ai (p_aload_n (pc := 25) (k := 0) (by decide +kernel : decode k_P_Text_isOver.2.1 25 = .ok (.aload_n 0, 1)) rfl rfl) ?_
        obtain ⟨a13, o14, h⟩ := gs_some h
        refine ai (p_getr (pc := 26) o14 (by decide +kernel : decode k_P_Text_isOver.2.1 26 = .ok (.getfield 37, 3)) lg_10_37 ht) ?_
        refine ai (r_iload_n (pc := 29) (k := 2) (by decide +kernel : decode k_P_Text_isOver.2.1 29 = .ok (.iload_n 2, 1)) rfl rfl) ?_
        obtain ⟨t15, h⟩ := gt_some h
        obtain ⟨g16, h⟩ := gd_some h
        obtain ⟨a17, o18, h⟩ := gs_some h
        refine ai (p_aaldr (pc := 30) (j := 0) (by decide) o18 (by decide +kernel : decode k_P_Text_isOver.2.1 30 = .ok (.aaload, 1)) t15 rfl g16) ?_
        obtain ⟨t19, h⟩ := gt_some h
        refine ai (r_getI (pc := 31) (by decide +kernel : decode k_P_Text_isOver.2.1 31 = .ok (.getfield 59, 3)) lg_10_59 (by decide) t19) ?_
        refine ai (r_iload_n (pc := 34) (k := 1) (by decide +kernel : decode k_P_Text_isOver.2.1 34 = .ok (.iload_n 1, 1)) rfl rfl) ?_
        rcases ite_some h with ⟨c20, h⟩ | ⟨c20, h⟩
        · refine ai (r_icmp_ne_f (pc := 35) 40 (by decide +kernel : decode k_P_Text_isOver.2.1 35 = .ok (.if_icmp .ne (5), 3)) (by decide) c20) ?_
          refine ai (r_iconst (pc := 38) (by decide +kernel : decode k_P_Text_isOver.2.1 38 = .ok (.iconst 1, 1)) ic_1) ?_
          cases h
          exact ⟨r_zret (by decide) rfl (by decide +kernel : decode k_P_Text_isOver.2.1 39 = .ok (.ireturn, 1)), hL⟩
        · refine ai (r_icmp_ne_t (pc := 35) (tgt := 40) (by decide +kernel : decode k_P_Text_isOver.2.1 35 = .ok (.if_icmp .ne (5), 3)) (by decide) c20) ?_
          exact (P_Text_isOver_40_run (fun _ _ _ _ _ _ q1 q2 q3 => ih q1 q2 q3) hL ht h)
      · refine ai (r_icmp_ne_t (pc := 22) (tgt := 40) (by decide +kernel : decode k_P_Text_isOver.2.1 22 = .ok (.if_icmp .ne (18), 3)) (by decide) c12) ?_
        exact (P_Text_isOver_40_run (fun _ _ _ _ _ _ q1 q2 q3 => ih q1 q2 q3) hL ht h)
set_option maxRecDepth 100000 in
set_option maxHeartbeats 4000000 in
theorem P_Text_isOver_run {a0 : Nat} {x1 : Int32} {m m' : Mem} {r : Int32} (hL : PL m) (ht : mT m a0 = 11) (h : P_Text_isOver a0 x1 m = some (r, m')) : Run k_P_Text_isOver 0 [(0, .ref a0), (1, .int x1)] [] m (some (.int r)) m' ∧ PL m' := by
  unfold P_Text_isOver at h
  refine ai (r_iconst (pc := 0) (by decide +kernel : decode k_P_Text_isOver.2.1 0 = .ok (.iconst 0, 1)) ic_0) ?_
  refine ai (e_istore_n (pc := 1) rfl (by decide +kernel : decode k_P_Text_isOver.2.1 1 = .ok (.istore_n 2, 1)) rfl (by decide) rfl (ls2 := [(2, .int 0), (0, .ref a0), (1, .int x1)]) (i := 2)) ?_
  exact (ai (r_sub [1, 2, 0] rfl) (P_Text_isOver_2_run hL ht h))
set_option maxRecDepth 100000 in
set_option maxHeartbeats 4000000 in
theorem P_Reckoning_isOutdone_55_run {k2 : Option Nat → Int32 → Mem → Option (Int32 × Mem)} {x1 : Option Nat} {x2 : Int32} {m m' : Mem} {r : Int32} (hk2 : ∀ (x1 : Option Nat) (x2 : Int32) (m : Mem) (r : Int32) (m' : Mem), PL m → k2 x1 x2 m = some (r, m') → Run k_P_Reckoning_isOutdone 2 [(0, .ref 28), (1, va_rf x1), (2, .int x2)] [] m (some (.int r)) m' ∧ PL m') (hL : PL m) (h : P_Reckoning_isOutdone_55 k2 x1 x2 m = some (r, m')) : Run k_P_Reckoning_isOutdone 55 [(0, .ref 28), (1, va_rf x1), (2, .int x2)] [] m (some (.int r)) m' ∧ PL m' := by
  unfold P_Reckoning_isOutdone_55 at h
  obtain ⟨v1, hv1, h⟩ := vb_some h
  refine ai (e_iinc (pc := 55) (k := 2) hv1 ic_1 (by decide +kernel : decode k_P_Reckoning_isOutdone.2.1 55 = .ok (.iinc 2 (1), 3)) rfl (by decide) (by simp [f1, vrc, vrs, cti, ctr, ctl, ctn, cta]) (ls2 := [(2, .int v1), (0, .ref 28), (1, va_rf x1)]) (i := 2)) ?_
  refine ai (r_goto (pc := 58) (tgt := 2) (by decide +kernel : decode k_P_Reckoning_isOutdone.2.1 58 = .ok (.goto (-56), 3)) (by decide)) ?_
  exact (ai (r_sub [1, 2, 0] rfl) (hk2 x1 v1 m _ _ hL h))
set_option maxRecDepth 100000 in
set_option maxHeartbeats 4000000 in
theorem P_Reckoning_isOutdone_2_run {n : Nat} {x1 : Option Nat} {x2 : Int32} {m m' : Mem} {r : Int32} (hL : PL m) (h : P_Reckoning_isOutdone_2 n x1 x2 m = some (r, m')) : Run k_P_Reckoning_isOutdone 2 [(0, .ref 28), (1, va_rf x1), (2, .int x2)] [] m (some (.int r)) m' ∧ PL m' := by
  induction n generalizing x1 x2 m r m' with
  | zero => exact absurd h (by simp [P_Reckoning_isOutdone_2])
  | succ n ih =>
    rw [P_Reckoning_isOutdone_2.eq_2] at h
    refine ai (r_iload_n (pc := 2) (k := 2) (by decide +kernel : decode k_P_Reckoning_isOutdone.2.1 2 = .ok (.iload_n 2, 1)) rfl rfl) ?_
    refine ai (p_aload_n (pc := 3) (k := 0) (by decide +kernel : decode k_P_Reckoning_isOutdone.2.1 3 = .ok (.aload_n 0, 1)) rfl rfl) ?_
    refine ai (p_getr (pc := 4) (PR_1024_28 hL) (by decide +kernel : decode k_P_Reckoning_isOutdone.2.1 4 = .ok (.getfield 54, 3)) lg_8_54 (PC_28 hL).1) ?_
    refine ai (r_getI (pc := 7) (by decide +kernel : decode k_P_Reckoning_isOutdone.2.1 7 = .ok (.getfield 97, 3)) lg_8_97 (by decide) (PC_13 hL).1) ?_
    rcases ite_some h with ⟨c1, h⟩ | ⟨c1, h⟩
    · refine ai (r_icmp_ge_t (pc := 10) (tgt := 61) (by decide +kernel : decode k_P_Reckoning_isOutdone.2.1 10 = .ok (.if_icmp .ge (51), 3)) (by decide) c1) ?_
      refine ai (r_iconst (pc := 61) (by decide +kernel : decode k_P_Reckoning_isOutdone.2.1 61 = .ok (.iconst 0, 1)) ic_0) ?_
      cases h
      exact ⟨r_zret (by decide) rfl (by decide +kernel : decode k_P_Reckoning_isOutdone.2.1 62 = .ok (.ireturn, 1)), hL⟩
    · refine ai (r_icmp_ge_f (pc := 10) 61 (by decide +kernel : decode k_P_Reckoning_isOutdone.2.1 10 = .ok (.if_icmp .ge (51), 3)) (by decide) c1) ?_
      refine ai (p_aload_n (pc := 13) (k := 0) (by decide +kernel : decode k_P_Reckoning_isOutdone.2.1 13 = .ok (.aload_n 0, 1)) rfl rfl) ?_
      refine ai (p_getr (pc := 14) (PR_1024_28 hL) (by decide +kernel : decode k_P_Reckoning_isOutdone.2.1 14 = .ok (.getfield 54, 3)) lg_8_54 (PC_28 hL).1) ?_
      refine ai (p_getr (pc := 17) (PR_513_13 hL) (by decide +kernel : decode k_P_Reckoning_isOutdone.2.1 17 = .ok (.getfield 100, 3)) lg_8_100 (PC_13 hL).1) ?_
      refine ai (r_iload_n (pc := 20) (k := 2) (by decide +kernel : decode k_P_Reckoning_isOutdone.2.1 20 = .ok (.iload_n 2, 1)) rfl rfl) ?_
      obtain ⟨g2, h⟩ := gd_some h
      refine ai (p_aald (pc := 21) (j := 1) (by decide) (by decide +kernel : decode k_P_Reckoning_isOutdone.2.1 21 = .ok (.aaload, 1)) (PC_15 hL).1 (PC_15 hL).2 g2) ?_
      refine ai (r_astore_n (pc := 22) (by decide +kernel : decode k_P_Reckoning_isOutdone.2.1 22 = .ok (.astore_n 3, 1)) rfl (by decide) rfl (ls2 := [(3, va_rf (aR m 15 (ix x2))), (0, .ref 28), (1, va_rf x1), (2, .int x2)]) (i := 3)) ?_
      refine ai (r_aload_n (pc := 23) (k := 0) (by decide +kernel : decode k_P_Reckoning_isOutdone.2.1 23 = .ok (.aload_n 3, 1)) rfl rfl) ?_
      refine ai (r_aload_n (pc := 24) (k := 2) (by decide +kernel : decode k_P_Reckoning_isOutdone.2.1 24 = .ok (.aload_n 1, 1)) rfl rfl) ?_
      rcases ite_some h with ⟨c3, h⟩ | ⟨c3, h⟩
      · refine ai (r_acmp_eq_t (pc := 25) (tgt := 55) (rx := aR m 15 (ix x2)) (ry := x1) (by decide +kernel : decode k_P_Reckoning_isOutdone.2.1 25 = .ok (.if_acmp .eq (30), 3)) (by decide) c3) ?_
        exact (ai (r_sub [1, 2, 3] rfl) (P_Reckoning_isOutdone_55_run (fun _ _ _ _ _ q1 q3 => ih q1 q3) hL h))
      · refine ai (r_acmp_eq_f (pc := 25) (rx := aR m 15 (ix x2)) (ry := x1) 55 (by decide +kernel : decode k_P_Reckoning_isOutdone.2.1 25 = .ok (.if_acmp .eq (30), 3)) (by decide) c3) ?_
        obtain ⟨a4, o5, h⟩ := gs_some h
        refine ai (d_aload_n (pc := 28) (k := 0) o5 (by decide +kernel : decode k_P_Reckoning_isOutdone.2.1 28 = .ok (.aload_n 3, 1)) rfl rfl) ?_
        obtain ⟨t6, h⟩ := gt_some h
        refine ai (r_getI (pc := 29) (by decide +kernel : decode k_P_Reckoning_isOutdone.2.1 29 = .ok (.getfield 141, 3)) lg_8_141 (by decide) t6) ?_
        rcases ite_some h with ⟨c7, h⟩ | ⟨c7, h⟩
        · refine ai (r_if_ne_f (pc := 32) 55 (by decide +kernel : decode k_P_Reckoning_isOutdone.2.1 32 = .ok (.ifCond .ne (23), 3)) (by decide) c7) ?_
          refine ai (d_aload_n (pc := 35) (k := 0) o5 (by decide +kernel : decode k_P_Reckoning_isOutdone.2.1 35 = .ok (.aload_n 3, 1)) rfl rfl) ?_
          refine ai (r_getI (pc := 36) (by decide +kernel : decode k_P_Reckoning_isOutdone.2.1 36 = .ok (.getfield 196, 3)) lg_8_196 (by decide) t6) ?_
          rcases ite_some h with ⟨c8, h⟩ | ⟨c8, h⟩
          · refine ai (r_if_eq_t (pc := 39) (tgt := 55) (by decide +kernel : decode k_P_Reckoning_isOutdone.2.1 39 = .ok (.ifCond .eq (16), 3)) (by decide) c8) ?_
            exact (ai (r_sub [1, 2, 3] rfl) (P_Reckoning_isOutdone_55_run (fun _ _ _ _ _ q1 q3 => ih q1 q3) hL h))
          · refine ai (r_if_eq_f (pc := 39) 55 (by decide +kernel : decode k_P_Reckoning_isOutdone.2.1 39 = .ok (.ifCond .eq (16), 3)) (by decide) c8) ?_
            refine ai (d_aload_n (pc := 42) (k := 0) o5 (by decide +kernel : decode k_P_Reckoning_isOutdone.2.1 42 = .ok (.aload_n 3, 1)) rfl rfl) ?_
            obtain ⟨a9, rfl, hha9⟩ := gs_some h
            have h := hha9
            refine ai (p_aload_n (pc := 43) (k := 2) (by decide +kernel : decode k_P_Reckoning_isOutdone.2.1 43 = .ok (.aload_n 1, 1)) rfl rfl) ?_
            obtain ⟨t10, h⟩ := gt_some h
            refine ai (r_getI (pc := 44) (by decide +kernel : decode k_P_Reckoning_isOutdone.2.1 44 = .ok (.getfield 236, 3)) lg_8_236 (by decide) t10) ?_
            obtain ⟨r11, m12, hr11, h⟩ := bn_some h
            have q13 := P_Text_isOver_run hL t6 hr11
            have hL := q13.2
            refine ai (q_callV (pc := 47) (As := [.int (mI m 1282 a9)]) (st := []) (st2 := [.int r11]) (b := a4) rfl rfl (by decide +kernel : decode k_P_Reckoning_isOutdone.2.1 47 = .ok (.invokevirtual 239, 3)) lc_8_239 mo_P_Text_isOver ⟨Nat.le_of_ble_eq_true rfl, Nat.le_of_ble_eq_true rfl⟩ (Nat.le_of_ble_eq_true rfl) (Nat.le_of_ble_eq_true rfl) t6 q13.1) ?_
            rcases ite_some h with ⟨c14, h⟩ | ⟨c14, h⟩
            · refine ai (r_if_eq_t (pc := 50) (tgt := 55) (by decide +kernel : decode k_P_Reckoning_isOutdone.2.1 50 = .ok (.ifCond .eq (5), 3)) (by decide) c14) ?_
              exact (ai (r_sub [1, 2, 3] rfl) (P_Reckoning_isOutdone_55_run (fun _ _ _ _ _ q1 q3 => ih q1 q3) hL h))
            · refine ai (r_if_eq_f (pc := 50) 55 (by decide +kernel : decode k_P_Reckoning_isOutdone.2.1 50 = .ok (.ifCond .eq (5), 3)) (by decide) c14) ?_
              refine ai (r_iconst (pc := 53) (by decide +kernel : decode k_P_Reckoning_isOutdone.2.1 53 = .ok (.iconst 1, 1)) ic_1) ?_
              cases h
              exact ⟨r_zret (by decide) rfl (by decide +kernel : decode k_P_Reckoning_isOutdone.2.1 54 = .ok (.ireturn, 1)), hL⟩
        · refine ai (r_if_ne_t (pc := 32) (tgt := 55) (by decide +kernel : decode k_P_Reckoning_isOutdone.2.1 32 = .ok (.ifCond .ne (23), 3)) (by decide) c7) ?_
          exact (ai (r_sub [1, 2, 3] rfl) (P_Reckoning_isOutdone_55_run (fun _ _ _ _ _ q1 q3 => ih q1 q3) hL h))
set_option maxRecDepth 100000 in
set_option maxHeartbeats 4000000 in
theorem P_Reckoning_isOutdone_run {x1 : Option Nat} {m m' : Mem} {r : Int32} (hL : PL m) (h : P_Reckoning_isOutdone x1 m = some (r, m')) : Run k_P_Reckoning_isOutdone 0 [(0, .ref 28), (1, va_rf x1)] [] m (some (.int r)) m' ∧ PL m' := by
  unfold P_Reckoning_isOutdone at h
  refine ai (r_iconst (pc := 0) (by decide +kernel : decode k_P_Reckoning_isOutdone.2.1 0 = .ok (.iconst 0, 1)) ic_0) ?_
  refine ai (e_istore_n (pc := 1) rfl (by decide +kernel : decode k_P_Reckoning_isOutdone.2.1 1 = .ok (.istore_n 2, 1)) rfl (by decide) (by simp [f1, vrc, vrs, cti, ctr, ctl, ctn, cta]) (ls2 := [(2, .int 0), (0, .ref 28), (1, va_rf x1)]) (i := 2)) ?_
  exact (ai (r_sub [1, 2, 0] rfl) (P_Reckoning_isOutdone_2_run hL h))
set_option maxRecDepth 100000 in
set_option maxHeartbeats 4000000 in
theorem P_Reckoning_lastAgree_55_run {k4 : Option Nat → Option Nat → Int32 → Mem → Option (Option Nat × Mem)} {x1 : Option Nat} {x2 : Option Nat} {x3 : Int32} {m m' : Mem} {r : Option Nat} (hk4 : ∀ (x1 : Option Nat) (x2 : Option Nat) (x3 : Int32) (m : Mem) (r : Option Nat) (m' : Mem), PL m → k4 x1 x2 x3 m = some (r, m') → Run k_P_Reckoning_lastAgree 4 [(0, .ref 28), (1, va_rf x1), (2, va_rf x2), (3, .int x3)] [] m (some (va_rf r)) m' ∧ PL m') (hL : PL m) (h : P_Reckoning_lastAgree_55 k4 x1 x2 x3 m = some (r, m')) : Run k_P_Reckoning_lastAgree 55 [(0, .ref 28), (1, va_rf x1), (2, va_rf x2), (3, .int x3)] [] m (some (va_rf r)) m' ∧ PL m' := by
  unfold P_Reckoning_lastAgree_55 at h
  obtain ⟨v1, hv1, h⟩ := vb_some h
  refine ai (e_iinc (pc := 55) (k := 3) hv1 ic_1 (by decide +kernel : decode k_P_Reckoning_lastAgree.2.1 55 = .ok (.iinc 3 (1), 3)) rfl (by decide) (by simp [f1, vrc, vrs, cti, ctr, ctl, ctn, cta]) (ls2 := [(3, .int v1), (0, .ref 28), (1, va_rf x1), (2, va_rf x2)]) (i := 3)) ?_
  refine ai (r_goto (pc := 58) (tgt := 4) (by decide +kernel : decode k_P_Reckoning_lastAgree.2.1 58 = .ok (.goto (-54), 3)) (by decide)) ?_
  exact (ai (r_sub [1, 2, 3, 0] rfl) (hk4 x1 x2 v1 m _ _ hL h))
set_option maxRecDepth 100000 in
set_option maxHeartbeats 4000000 in
theorem P_Reckoning_lastAgree_4_run {n : Nat} {x1 : Option Nat} {x2 : Option Nat} {x3 : Int32} {m m' : Mem} {r : Option Nat} (hL : PL m) (h : P_Reckoning_lastAgree_4 n x1 x2 x3 m = some (r, m')) : Run k_P_Reckoning_lastAgree 4 [(0, .ref 28), (1, va_rf x1), (2, va_rf x2), (3, .int x3)] [] m (some (va_rf r)) m' ∧ PL m' := by
  induction n generalizing x1 x2 x3 m r m' with
  | zero => exact absurd h (by simp [P_Reckoning_lastAgree_4])
  | succ n ih =>
    rw [P_Reckoning_lastAgree_4.eq_2] at h
    refine ai (r_iload_n (pc := 4) (k := 3) (by decide +kernel : decode k_P_Reckoning_lastAgree.2.1 4 = .ok (.iload_n 3, 1)) rfl rfl) ?_
    refine ai (p_aload_n (pc := 5) (k := 0) (by decide +kernel : decode k_P_Reckoning_lastAgree.2.1 5 = .ok (.aload_n 0, 1)) rfl rfl) ?_
    refine ai (p_getr (pc := 6) (PR_1024_28 hL) (by decide +kernel : decode k_P_Reckoning_lastAgree.2.1 6 = .ok (.getfield 54, 3)) lg_8_54 (PC_28 hL).1) ?_
    refine ai (r_getI (pc := 9) (by decide +kernel : decode k_P_Reckoning_lastAgree.2.1 9 = .ok (.getfield 97, 3)) lg_8_97 (by decide) (PC_13 hL).1) ?_
    rcases ite_some h with ⟨c1, h⟩ | ⟨c1, h⟩
    · refine ai (r_icmp_ge_t (pc := 12) (tgt := 61) (by decide +kernel : decode k_P_Reckoning_lastAgree.2.1 12 = .ok (.if_icmp .ge (49), 3)) (by decide) c1) ?_
      refine ai (r_aload_n (pc := 61) (k := 2) (by decide +kernel : decode k_P_Reckoning_lastAgree.2.1 61 = .ok (.aload_n 2, 1)) rfl rfl) ?_
      cases h
      exact ⟨r_aret (o := _) rfl (Or.inl ⟨_, rfl⟩) (by decide +kernel : decode k_P_Reckoning_lastAgree.2.1 62 = .ok (.areturn, 1)), hL⟩
    · refine ai (r_icmp_ge_f (pc := 12) 61 (by decide +kernel : decode k_P_Reckoning_lastAgree.2.1 12 = .ok (.if_icmp .ge (49), 3)) (by decide) c1) ?_
      refine ai (p_aload_n (pc := 15) (k := 0) (by decide +kernel : decode k_P_Reckoning_lastAgree.2.1 15 = .ok (.aload_n 0, 1)) rfl rfl) ?_
      refine ai (p_getr (pc := 16) (PR_1024_28 hL) (by decide +kernel : decode k_P_Reckoning_lastAgree.2.1 16 = .ok (.getfield 54, 3)) lg_8_54 (PC_28 hL).1) ?_
      refine ai (p_getr (pc := 19) (PR_513_13 hL) (by decide +kernel : decode k_P_Reckoning_lastAgree.2.1 19 = .ok (.getfield 100, 3)) lg_8_100 (PC_13 hL).1) ?_
      refine ai (r_iload_n (pc := 22) (k := 3) (by decide +kernel : decode k_P_Reckoning_lastAgree.2.1 22 = .ok (.iload_n 3, 1)) rfl rfl) ?_
      obtain ⟨g2, h⟩ := gd_some h
      obtain ⟨a3, o4, h⟩ := gs_some h
      refine ai (p_aaldr (pc := 23) (j := 1) (by decide) o4 (by decide +kernel : decode k_P_Reckoning_lastAgree.2.1 23 = .ok (.aaload, 1)) (PC_15 hL).1 (PC_15 hL).2 g2) ?_
      refine ai (p_astore (pc := 24) (by decide +kernel : decode k_P_Reckoning_lastAgree.2.1 24 = .ok (.astore 4, 2)) (by decide) rfl (ls2 := [(4, .ref a3), (0, .ref 28), (1, va_rf x1), (2, va_rf x2), (3, .int x3)]) (i := 4)) ?_
      refine ai (p_aload (pc := 26) (k := 0) (by decide +kernel : decode k_P_Reckoning_lastAgree.2.1 26 = .ok (.aload 4, 2)) rfl) ?_
      obtain ⟨t5, h⟩ := gt_some h
      refine ai (r_getI (pc := 28) (by decide +kernel : decode k_P_Reckoning_lastAgree.2.1 28 = .ok (.getfield 141, 3)) lg_8_141 (by decide) t5) ?_
      refine ai (r_iconst (pc := 31) (by decide +kernel : decode k_P_Reckoning_lastAgree.2.1 31 = .ok (.iconst 3, 1)) ic_3) ?_
      rcases ite_some h with ⟨c6, h⟩ | ⟨c6, h⟩
      · refine ai (r_icmp_ne_f (pc := 32) 55 (by decide +kernel : decode k_P_Reckoning_lastAgree.2.1 32 = .ok (.if_icmp .ne (23), 3)) (by decide) c6) ?_
        refine ai (p_aload (pc := 35) (k := 0) (by decide +kernel : decode k_P_Reckoning_lastAgree.2.1 35 = .ok (.aload 4, 2)) rfl) ?_
        refine ai (p_getR (pc := 37) (by decide +kernel : decode k_P_Reckoning_lastAgree.2.1 37 = .ok (.getfield 242, 3)) lg_8_242 t5) ?_
        refine ai (r_aload_n (pc := 40) (k := 2) (by decide +kernel : decode k_P_Reckoning_lastAgree.2.1 40 = .ok (.aload_n 1, 1)) rfl rfl) ?_
        rcases ite_some h with ⟨c7, h⟩ | ⟨c7, h⟩
        · refine ai (r_acmp_ne_f (pc := 41) (rx := mR m 1285 a3) (ry := x1) 55 (by decide +kernel : decode k_P_Reckoning_lastAgree.2.1 41 = .ok (.if_acmp .ne (14), 3)) (by decide) c7) ?_
          refine ai (p_aload (pc := 44) (k := 0) (by decide +kernel : decode k_P_Reckoning_lastAgree.2.1 44 = .ok (.aload 4, 2)) rfl) ?_
          refine ai (r_getI (pc := 46) (by decide +kernel : decode k_P_Reckoning_lastAgree.2.1 46 = .ok (.getfield 196, 3)) lg_8_196 (by decide) t5) ?_
          rcases ite_some h with ⟨c8, h⟩ | ⟨c8, h⟩
          · refine ai (r_if_eq_t (pc := 49) (tgt := 55) (by decide +kernel : decode k_P_Reckoning_lastAgree.2.1 49 = .ok (.ifCond .eq (6), 3)) (by decide) c8) ?_
            exact (ai (r_sub [1, 2, 3, 4] rfl) (P_Reckoning_lastAgree_55_run (fun _ _ _ _ _ _ q1 q3 => ih q1 q3) hL h))
          · refine ai (r_if_eq_f (pc := 49) 55 (by decide +kernel : decode k_P_Reckoning_lastAgree.2.1 49 = .ok (.ifCond .eq (6), 3)) (by decide) c8) ?_
            refine ai (p_aload (pc := 52) (k := 0) (by decide +kernel : decode k_P_Reckoning_lastAgree.2.1 52 = .ok (.aload 4, 2)) rfl) ?_
            refine ai (p_astore_n (pc := 54) (by decide +kernel : decode k_P_Reckoning_lastAgree.2.1 54 = .ok (.astore_n 2, 1)) rfl (by decide) (by simp [f1, vrc, vrs, cti, ctr, ctl, ctn, cta]) (ls2 := [(2, .ref a3), (4, .ref a3), (0, .ref 28), (1, va_rf x1), (3, .int x3)]) (i := 2)) ?_
            exact (ai (r_sub [2, 3, 0, 4] rfl) (P_Reckoning_lastAgree_55_run (fun _ _ _ _ _ _ q1 q3 => ih q1 q3) hL h))
        · refine ai (r_acmp_ne_t (pc := 41) (tgt := 55) (rx := mR m 1285 a3) (ry := x1) (by decide +kernel : decode k_P_Reckoning_lastAgree.2.1 41 = .ok (.if_acmp .ne (14), 3)) (by decide) c7) ?_
          exact (ai (r_sub [1, 2, 3, 4] rfl) (P_Reckoning_lastAgree_55_run (fun _ _ _ _ _ _ q1 q3 => ih q1 q3) hL h))
      · refine ai (r_icmp_ne_t (pc := 32) (tgt := 55) (by decide +kernel : decode k_P_Reckoning_lastAgree.2.1 32 = .ok (.if_icmp .ne (23), 3)) (by decide) c6) ?_
        exact (ai (r_sub [1, 2, 3, 4] rfl) (P_Reckoning_lastAgree_55_run (fun _ _ _ _ _ _ q1 q3 => ih q1 q3) hL h))
set_option maxRecDepth 100000 in
set_option maxHeartbeats 4000000 in
theorem P_Reckoning_lastAgree_run {x1 : Option Nat} {m m' : Mem} {r : Option Nat} (hL : PL m) (h : P_Reckoning_lastAgree x1 m = some (r, m')) : Run k_P_Reckoning_lastAgree 0 [(0, .ref 28), (1, va_rf x1)] [] m (some (va_rf r)) m' ∧ PL m' := by
  unfold P_Reckoning_lastAgree at h
  refine ai (r_null (pc := 0) (by decide +kernel : decode k_P_Reckoning_lastAgree.2.1 0 = .ok (.aconst_null, 1))) ?_
  refine ai (n_astore_n (pc := 1) (by decide +kernel : decode k_P_Reckoning_lastAgree.2.1 1 = .ok (.astore_n 2, 1)) rfl (by decide) (by simp [f1, vrc, vrs, cti, ctr, ctl, ctn, cta]) (ls2 := [(2, .null), (0, .ref 28), (1, va_rf x1)]) (i := 2)) ?_
  refine ai (r_iconst (pc := 2) (by decide +kernel : decode k_P_Reckoning_lastAgree.2.1 2 = .ok (.iconst 0, 1)) ic_0) ?_
  refine ai (e_istore_n (pc := 3) rfl (by decide +kernel : decode k_P_Reckoning_lastAgree.2.1 3 = .ok (.istore_n 3, 1)) rfl (by decide) (by simp [f1, vrc, vrs, cti, ctr, ctl, ctn, cta]) (ls2 := [(3, .int 0), (2, .null), (0, .ref 28), (1, va_rf x1)]) (i := 3)) ?_
  exact (ai (r_sub [2, 3, 1, 0] rfl) (P_Reckoning_lastAgree_4_run hL h))
set_option maxRecDepth 100000 in
set_option maxHeartbeats 4000000 in
theorem P_Reckoning_bind_88_run {k9 : Int32 → Int32 → Int32 → Mem → Option (Unit × Mem)} {x1 : Int32} {x3 : Int32} {s0 : Int32} {s1 : Int32} {m m' : Mem} {r : Unit} (hk9 : ∀ (x1 : Int32) (x2 : Int32) (x3 : Int32) (m : Mem) (r : Unit) (m' : Mem), PL m → k9 x1 x2 x3 m = some (r, m') → Run k_P_Reckoning_bind 9 [(0, .ref 28), (1, .int x1), (2, .int x2), (3, .int x3)] [] m none m' ∧ PL m') (hL : PL m) (h : P_Reckoning_bind_88 k9 x1 x3 s0 s1 m = some (r, m')) : Run k_P_Reckoning_bind 88 [(0, .ref 28), (1, .int x1), (3, .int x3)] [.int s0, .int s1] m none m' ∧ PL m' := by
  unfold P_Reckoning_bind_88 at h
  refine ai (r_iadd (pc := 88) (by decide +kernel : decode k_P_Reckoning_bind.2.1 88 = .ok (.iadd, 1))) ?_
  obtain ⟨v1, hv1, h⟩ := vb_some h
  refine ai (e_istore_n (pc := 89) hv1 (by decide +kernel : decode k_P_Reckoning_bind.2.1 89 = .ok (.istore_n 2, 1)) rfl (by decide) rfl (ls2 := [(2, .int v1), (0, .ref 28), (1, .int x1), (3, .int x3)]) (i := 2)) ?_
  obtain ⟨v2, hv2, h⟩ := vb_some h
  refine ai (e_iinc (pc := 90) (k := 3) hv2 ic_1 (by decide +kernel : decode k_P_Reckoning_bind.2.1 90 = .ok (.iinc 3 (1), 3)) rfl (by decide) rfl (ls2 := [(3, .int v2), (2, .int v1), (0, .ref 28), (1, .int x1)]) (i := 3)) ?_
  refine ai (r_goto (pc := 93) (tgt := 9) (by decide +kernel : decode k_P_Reckoning_bind.2.1 93 = .ok (.goto (-84), 3)) (by decide)) ?_
  exact (ai (r_sub [2, 3, 1, 0] rfl) (hk9 x1 v1 v2 m _ _ hL h))
set_option maxRecDepth 100000 in
set_option maxHeartbeats 4000000 in
theorem P_Reckoning_bind_87_run {k9 : Int32 → Int32 → Int32 → Mem → Option (Unit × Mem)} {x1 : Int32} {x3 : Int32} {s0 : Int32} {m m' : Mem} {r : Unit} (hk9 : ∀ (x1 : Int32) (x2 : Int32) (x3 : Int32) (m : Mem) (r : Unit) (m' : Mem), PL m → k9 x1 x2 x3 m = some (r, m') → Run k_P_Reckoning_bind 9 [(0, .ref 28), (1, .int x1), (2, .int x2), (3, .int x3)] [] m none m' ∧ PL m') (hL : PL m) (h : P_Reckoning_bind_87 k9 x1 x3 s0 m = some (r, m')) : Run k_P_Reckoning_bind 87 [(0, .ref 28), (1, .int x1), (3, .int x3)] [.int s0] m none m' ∧ PL m' := by
  unfold P_Reckoning_bind_87 at h
  refine ai (r_iconst (pc := 87) (by decide +kernel : decode k_P_Reckoning_bind.2.1 87 = .ok (.iconst 0, 1)) ic_0) ?_
  exact (P_Reckoning_bind_88_run hk9 hL h)
set_option maxRecDepth 100000 in
set_option maxHeartbeats 4000000 in
theorem P_Reckoning_bind_63_run {k9 : Int32 → Int32 → Int32 → Mem → Option (Unit × Mem)} {x1 : Int32} {x2 : Int32} {x3 : Int32} {x4 : Option Nat} {s0 : Int32} {s1 : Option Nat} {m m' : Mem} {r : Unit} (hk9 : ∀ (x1 : Int32) (x2 : Int32) (x3 : Int32) (m : Mem) (r : Unit) (m' : Mem), PL m → k9 x1 x2 x3 m = some (r, m') → Run k_P_Reckoning_bind 9 [(0, .ref 28), (1, .int x1), (2, .int x2), (3, .int x3)] [] m none m' ∧ PL m') (hL : PL m) (h : P_Reckoning_bind_63 k9 x1 x2 x3 x4 s0 s1 m = some (r, m')) : Run k_P_Reckoning_bind 63 [(0, .ref 28), (1, .int x1), (2, .int x2), (3, .int x3), (4, va_rf x4)] [.int s0, va_rf s1] m none m' ∧ PL m' := by
  unfold P_Reckoning_bind_63 at h
  obtain ⟨a1, rfl, hha1⟩ := gs_some h
  have h := hha1
  obtain ⟨t2, h⟩ := gt_some h
  obtain ⟨z3, h⟩ := gz_some h
  obtain ⟨m4, hm4, h⟩ := vb_some h
  have hL : PL m4 := by rw [hm4]; exact hL
  have t5 : mT m4 a1 = 11 := by rw [hm4]; exact t2
  refine ai (p_putZ (pc := 63) hm4 z3 (by decide +kernel : decode k_P_Reckoning_bind.2.1 63 = .ok (.putfield 196, 3)) lp_8_196 t2) ?_
  refine ai (r_iload_n (pc := 66) (k := 2) (by decide +kernel : decode k_P_Reckoning_bind.2.1 66 = .ok (.iload_n 2, 1)) rfl rfl) ?_
  obtain ⟨a6, rfl, hha6⟩ := gs_some h
  have h := hha6
  refine ai (p_aload (pc := 67) (k := 4) (by decide +kernel : decode k_P_Reckoning_bind.2.1 67 = .ok (.aload 4, 2)) rfl) ?_
  obtain ⟨t7, h⟩ := gt_some h
  refine ai (r_getI (pc := 69) (by decide +kernel : decode k_P_Reckoning_bind.2.1 69 = .ok (.getfield 196, 3)) lg_8_196 (by decide) t7) ?_
  rcases ite_some h with ⟨c8, h⟩ | ⟨c8, h⟩
  · refine ai (r_if_eq_t (pc := 72) (tgt := 87) (by decide +kernel : decode k_P_Reckoning_bind.2.1 72 = .ok (.ifCond .eq (15), 3)) (by decide) c8) ?_
    exact (ai (r_sub [0, 1, 3] rfl) (P_Reckoning_bind_87_run hk9 hL h))
  · refine ai (r_if_eq_f (pc := 72) 87 (by decide +kernel : decode k_P_Reckoning_bind.2.1 72 = .ok (.ifCond .eq (15), 3)) (by decide) c8) ?_
    refine ai (p_aload (pc := 75) (k := 4) (by decide +kernel : decode k_P_Reckoning_bind.2.1 75 = .ok (.aload 4, 2)) rfl) ?_
    refine ai (r_getI (pc := 77) (by decide +kernel : decode k_P_Reckoning_bind.2.1 77 = .ok (.getfield 141, 3)) lg_8_141 (by decide) t7) ?_
    rcases ite_some h with ⟨c9, h⟩ | ⟨c9, h⟩
    · refine ai (r_if_ne_f (pc := 80) 87 (by decide +kernel : decode k_P_Reckoning_bind.2.1 80 = .ok (.ifCond .ne (7), 3)) (by decide) c9) ?_
      refine ai (r_iconst (pc := 83) (by decide +kernel : decode k_P_Reckoning_bind.2.1 83 = .ok (.iconst 1, 1)) ic_1) ?_
      refine ai (r_goto (pc := 84) (tgt := 88) (by decide +kernel : decode k_P_Reckoning_bind.2.1 84 = .ok (.goto (4), 3)) (by decide)) ?_
      exact (ai (r_sub [0, 1, 3] rfl) (P_Reckoning_bind_88_run hk9 hL h))
    · refine ai (r_if_ne_t (pc := 80) (tgt := 87) (by decide +kernel : decode k_P_Reckoning_bind.2.1 80 = .ok (.ifCond .ne (7), 3)) (by decide) c9) ?_
      exact (ai (r_sub [0, 1, 3] rfl) (P_Reckoning_bind_87_run hk9 hL h))
set_option maxRecDepth 100000 in
set_option maxHeartbeats 4000000 in
theorem P_Reckoning_bind_62_run {k9 : Int32 → Int32 → Int32 → Mem → Option (Unit × Mem)} {x1 : Int32} {x2 : Int32} {x3 : Int32} {x4 : Option Nat} {s0 : Option Nat} {m m' : Mem} {r : Unit} (hk9 : ∀ (x1 : Int32) (x2 : Int32) (x3 : Int32) (m : Mem) (r : Unit) (m' : Mem), PL m → k9 x1 x2 x3 m = some (r, m') → Run k_P_Reckoning_bind 9 [(0, .ref 28), (1, .int x1), (2, .int x2), (3, .int x3)] [] m none m' ∧ PL m') (hL : PL m) (h : P_Reckoning_bind_62 k9 x1 x2 x3 x4 s0 m = some (r, m')) : Run k_P_Reckoning_bind 62 [(0, .ref 28), (1, .int x1), (2, .int x2), (3, .int x3), (4, va_rf x4)] [va_rf s0] m none m' ∧ PL m' := by
  unfold P_Reckoning_bind_62 at h
  refine ai (r_iconst (pc := 62) (by decide +kernel : decode k_P_Reckoning_bind.2.1 62 = .ok (.iconst 0, 1)) ic_0) ?_
  exact (P_Reckoning_bind_63_run hk9 hL h)
set_option maxRecDepth 100000 in
set_option maxHeartbeats 4000000 in
theorem P_Reckoning_bind_164_run {k109 : Int32 → Option Nat → Int32 → Int32 → Mem → Option (Unit × Mem)} {x1 : Int32} {x3 : Option Nat} {x4 : Int32} {x5 : Int32} {m m' : Mem} {r : Unit} (hk109 : ∀ (x1 : Int32) (x3 : Option Nat) (x4 : Int32) (x5 : Int32) (m : Mem) (r : Unit) (m' : Mem), PL m → k109 x1 x3 x4 x5 m = some (r, m') → Run k_P_Reckoning_bind 109 [(0, .ref 28), (1, .int x1), (3, va_rf x3), (4, .int x4), (5, .int x5)] [] m none m' ∧ PL m') (hL : PL m) (h : P_Reckoning_bind_164 k109 x1 x3 x4 x5 m = some (r, m')) : Run k_P_Reckoning_bind 164 [(0, .ref 28), (1, .int x1), (3, va_rf x3), (4, .int x4), (5, .int x5)] [] m none m' ∧ PL m' := by
  unfold P_Reckoning_bind_164 at h
  obtain ⟨v1, hv1, h⟩ := vb_some h
  refine ai (e_iinc (pc := 164) (k := 4) hv1 ic_1 (by decide +kernel : decode k_P_Reckoning_bind.2.1 164 = .ok (.iinc 5 (1), 3)) rfl (by decide) rfl (ls2 := [(5, .int v1), (0, .ref 28), (1, .int x1), (3, va_rf x3), (4, .int x4)]) (i := 5)) ?_
  refine ai (r_goto (pc := 167) (tgt := 109) (by decide +kernel : decode k_P_Reckoning_bind.2.1 167 = .ok (.goto (-58), 3)) (by decide)) ?_
  exact (ai (r_sub [1, 2, 3, 4, 0] rfl) (hk109 x1 x3 x4 v1 m _ _ hL h))
set_option maxRecDepth 100000 in
set_option maxHeartbeats 4000000 in
theorem P_Reckoning_bind_240_run {s0 : Option Nat} {s1 : Int32} {m m' : Mem} {r : Unit} (hL : PL m) (h : P_Reckoning_bind_240 s0 s1 m = some (r, m')) : Run k_P_Reckoning_bind 240 [] [va_rf s0, .int s1, .ref 35] m none m' ∧ PL m' := by
  unfold P_Reckoning_bind_240 at h
  obtain ⟨g1, h⟩ := gd_some h
  obtain ⟨g2, h⟩ := go_some h
  have c3 := (PC_35 hL).1
  have c4 := (PC_35 hL).2
  obtain ⟨m5, hm5, h⟩ := vb_some h
  have hL : PL m5 := by rw [hm5]; exact hL
  refine ai (p_aast (pc := 240) (j := 1) (by decide) hm5 (by decide +kernel : decode k_P_Reckoning_bind.2.1 240 = .ok (.aastore, 1)) c3 c4 g1 g2) ?_
  cases h
  exact ⟨r_vret rfl (by decide +kernel : decode k_P_Reckoning_bind.2.1 241 = .ok (.return_, 1)), hL⟩
set_option maxRecDepth 100000 in
set_option maxHeartbeats 4000000 in
theorem P_Reckoning_bind_211_run {x1 : Int32} {s0 : Option Nat} {s1 : Int32} {m m' : Mem} {r : Unit} (hL : PL m) (h : P_Reckoning_bind_211 x1 s0 s1 m = some (r, m')) : Run k_P_Reckoning_bind 211 [(0, .ref 28), (1, .int x1)] [va_rf s0, .int s1, .ref 33] m none m' ∧ PL m' := by
  unfold P_Reckoning_bind_211 at h
  obtain ⟨g1, h⟩ := gd_some h
  obtain ⟨g2, h⟩ := go_some h
  have c3 := (PC_33 hL).1
  have c4 := (PC_33 hL).2
  obtain ⟨m5, hm5, h⟩ := vb_some h
  have hL : PL m5 := by rw [hm5]; exact hL
  refine ai (p_aast (pc := 211) (j := 1) (by decide) hm5 (by decide +kernel : decode k_P_Reckoning_bind.2.1 211 = .ok (.aastore, 1)) c3 c4 g1 g2) ?_
  refine ai (p_aload_n (pc := 212) (k := 0) (by decide +kernel : decode k_P_Reckoning_bind.2.1 212 = .ok (.aload_n 0, 1)) rfl rfl) ?_
  refine ai (p_getr (pc := 213) (PR_1036_28 hL) (by decide +kernel : decode k_P_Reckoning_bind.2.1 213 = .ok (.getfield 36, 3)) lg_8_36 (PC_28 hL).1) ?_
  refine ai (r_iload_n (pc := 216) (k := 1) (by decide +kernel : decode k_P_Reckoning_bind.2.1 216 = .ok (.iload_n 1, 1)) rfl rfl) ?_
  refine ai (p_aload_n (pc := 217) (k := 0) (by decide +kernel : decode k_P_Reckoning_bind.2.1 217 = .ok (.aload_n 0, 1)) rfl rfl) ?_
  refine ai (p_getr (pc := 218) (PR_1034_28 hL) (by decide +kernel : decode k_P_Reckoning_bind.2.1 218 = .ok (.getfield 29, 3)) lg_8_29 (PC_28 hL).1) ?_
  refine ai (r_iload_n (pc := 221) (k := 1) (by decide +kernel : decode k_P_Reckoning_bind.2.1 221 = .ok (.iload_n 1, 1)) rfl rfl) ?_
  obtain ⟨g6, h⟩ := gd_some h
  refine ai (p_aald (pc := 222) (j := 1) (by decide) (by decide +kernel : decode k_P_Reckoning_bind.2.1 222 = .ok (.aaload, 1)) (PC_33 hL).1 (PC_33 hL).2 g6) ?_
  rcases ite_some h with ⟨c7, h⟩ | ⟨c7, h⟩
  · refine ai (d_ifnonnull_f (pc := 223) c7 (by decide +kernel : decode k_P_Reckoning_bind.2.1 223 = .ok (.ifnonnull (7), 3))) ?_
    refine ai (r_null (pc := 226) (by decide +kernel : decode k_P_Reckoning_bind.2.1 226 = .ok (.aconst_null, 1))) ?_
    refine ai (r_goto (pc := 227) (tgt := 240) (by decide +kernel : decode k_P_Reckoning_bind.2.1 227 = .ok (.goto (13), 3)) (by decide)) ?_
    exact (ai (r_sub [] rfl) (P_Reckoning_bind_240_run hL h))
  · refine ai (d_ifnonnull_t (pc := 223) (tgt := 230) c7 (by decide +kernel : decode k_P_Reckoning_bind.2.1 223 = .ok (.ifnonnull (7), 3)) (by decide)) ?_
    refine ai (p_aload_n (pc := 230) (k := 0) (by decide +kernel : decode k_P_Reckoning_bind.2.1 230 = .ok (.aload_n 0, 1)) rfl rfl) ?_
    refine ai (p_aload_n (pc := 231) (k := 0) (by decide +kernel : decode k_P_Reckoning_bind.2.1 231 = .ok (.aload_n 0, 1)) rfl rfl) ?_
    refine ai (p_getr (pc := 232) (PR_1034_28 hL) (by decide +kernel : decode k_P_Reckoning_bind.2.1 232 = .ok (.getfield 29, 3)) lg_8_29 (PC_28 hL).1) ?_
    refine ai (r_iload_n (pc := 235) (k := 1) (by decide +kernel : decode k_P_Reckoning_bind.2.1 235 = .ok (.iload_n 1, 1)) rfl rfl) ?_
    obtain ⟨g8, h⟩ := gd_some h
    refine ai (p_aald (pc := 236) (j := 1) (by decide) (by decide +kernel : decode k_P_Reckoning_bind.2.1 236 = .ok (.aaload, 1)) (PC_33 hL).1 (PC_33 hL).2 g8) ?_
    obtain ⟨r9, m10, hr9, h⟩ := bn_some h
    have q11 := P_Reckoning_lastAgree_run hL hr9
    have c12 := (PC_28 hL).1
    have hL := q11.2
    refine ai (q_callV (pc := 237) (As := [va_rf (aR m5 33 (ix x1))]) (st := [.int x1, .ref 35]) (st2 := [va_rf r9, .int x1, .ref 35]) (b := 28) (by simp [lv_args, vrc, vrs, cti, ctr, ctl, ctn, cta]) rfl (by decide +kernel : decode k_P_Reckoning_bind.2.1 237 = .ok (.invokevirtual 205, 3)) lc_8_205 mo_P_Reckoning_lastAgree ⟨Nat.le_of_ble_eq_true rfl, Nat.le_of_ble_eq_true rfl⟩ (by simp [lg_sl, vrc, vrs, cti, ctr, ctl, ctn, cta, k_P_Reckoning_lastAgree]) (Nat.le_of_ble_eq_true rfl) c12 q11.1) ?_
    exact (ai (r_sub [] rfl) (P_Reckoning_bind_240_run hL h))
set_option maxRecDepth 100000 in
set_option maxHeartbeats 4000000 in
theorem P_Reckoning_bind_194_run {x1 : Int32} {x3 : Option Nat} {x4 : Int32} {s0 : Int32} {s1 : Int32} {m m' : Mem} {r : Unit} (hL : PL m) (h : P_Reckoning_bind_194 x1 x3 x4 s0 s1 m = some (r, m')) : Run k_P_Reckoning_bind 194 [(0, .ref 28), (1, .int x1), (3, va_rf x3), (4, .int x4)] [.int s0, .int s1, .ref 32] m none m' ∧ PL m' := by
  unfold P_Reckoning_bind_194 at h
  obtain ⟨g1, h⟩ := gd_some h
  have c2 := (PC_32 hL).1
  have c3 := (PC_32 hL).2
  obtain ⟨m4, hm4, h⟩ := vb_some h
  have hL : PL m4 := by rw [hm4]; exact hL
  refine ai (p_iast (pc := 194) hm4 (by decide +kernel : decode k_P_Reckoning_bind.2.1 194 = .ok (.iastore, 1)) c2 c3 g1) ?_
  refine ai (p_aload_n (pc := 195) (k := 0) (by decide +kernel : decode k_P_Reckoning_bind.2.1 195 = .ok (.aload_n 0, 1)) rfl rfl) ?_
  refine ai (p_getr (pc := 196) (PR_1034_28 hL) (by decide +kernel : decode k_P_Reckoning_bind.2.1 196 = .ok (.getfield 29, 3)) lg_8_29 (PC_28 hL).1) ?_
  refine ai (r_iload_n (pc := 199) (k := 1) (by decide +kernel : decode k_P_Reckoning_bind.2.1 199 = .ok (.iload_n 1, 1)) rfl rfl) ?_
  refine ai (r_iload (pc := 200) (k := 3) (by decide +kernel : decode k_P_Reckoning_bind.2.1 200 = .ok (.iload 4, 2)) rfl) ?_
  refine ai (r_iconst (pc := 202) (by decide +kernel : decode k_P_Reckoning_bind.2.1 202 = .ok (.iconst 1, 1)) ic_1) ?_
  rcases ite_some h with ⟨c5, h⟩ | ⟨c5, h⟩
  · refine ai (r_icmp_ne_f (pc := 203) 210 (by decide +kernel : decode k_P_Reckoning_bind.2.1 203 = .ok (.if_icmp .ne (7), 3)) (by decide) c5) ?_
    refine ai (r_aload_n (pc := 206) (k := 2) (by decide +kernel : decode k_P_Reckoning_bind.2.1 206 = .ok (.aload_n 3, 1)) rfl rfl) ?_
    refine ai (r_goto (pc := 207) (tgt := 211) (by decide +kernel : decode k_P_Reckoning_bind.2.1 207 = .ok (.goto (4), 3)) (by decide)) ?_
    exact (ai (r_sub [0, 1] rfl) (P_Reckoning_bind_211_run hL h))
  · refine ai (r_icmp_ne_t (pc := 203) (tgt := 210) (by decide +kernel : decode k_P_Reckoning_bind.2.1 203 = .ok (.if_icmp .ne (7), 3)) (by decide) c5) ?_
    refine ai (r_null (pc := 210) (by decide +kernel : decode k_P_Reckoning_bind.2.1 210 = .ok (.aconst_null, 1))) ?_
    exact (ai (r_sub [0, 1] rfl) (P_Reckoning_bind_211_run hL h))
set_option maxRecDepth 100000 in
set_option maxHeartbeats 4000000 in
theorem P_Reckoning_bind_192_run {x1 : Int32} {x3 : Option Nat} {x4 : Int32} {s0 : Int32} {m m' : Mem} {r : Unit} (hL : PL m) (h : P_Reckoning_bind_192 x1 x3 x4 s0 m = some (r, m')) : Run k_P_Reckoning_bind 192 [(0, .ref 28), (1, .int x1), (3, va_rf x3), (4, .int x4)] [.int s0, .ref 32] m none m' ∧ PL m' := by
  unfold P_Reckoning_bind_192 at h
  refine ai (r_bipush (pc := 192) (by decide +kernel : decode k_P_Reckoning_bind.2.1 192 = .ok (.bipush (-2), 2)) (by decide : _ = (-2 : Int32))) ?_
  exact (P_Reckoning_bind_194_run hL h)
set_option maxRecDepth 100000 in
set_option maxHeartbeats 4000000 in
theorem P_Reckoning_bind_170_run {x1 : Int32} {x3 : Option Nat} {x4 : Int32} {m m' : Mem} {r : Unit} (hL : PL m) (h : P_Reckoning_bind_170 x1 x3 x4 m = some (r, m')) : Run k_P_Reckoning_bind 170 [(0, .ref 28), (1, .int x1), (3, va_rf x3), (4, .int x4)] [] m none m' ∧ PL m' := by
  unfold P_Reckoning_bind_170 at h
  refine ai (p_aload_n (pc := 170) (k := 0) (by decide +kernel : decode k_P_Reckoning_bind.2.1 170 = .ok (.aload_n 0, 1)) rfl rfl) ?_
  refine ai (p_getr (pc := 171) (PR_1033_28 hL) (by decide +kernel : decode k_P_Reckoning_bind.2.1 171 = .ok (.getfield 24, 3)) lg_8_24 (PC_28 hL).1) ?_
  refine ai (r_iload_n (pc := 174) (k := 1) (by decide +kernel : decode k_P_Reckoning_bind.2.1 174 = .ok (.iload_n 1, 1)) rfl rfl) ?_
  refine ai (r_iload (pc := 175) (k := 3) (by decide +kernel : decode k_P_Reckoning_bind.2.1 175 = .ok (.iload 4, 2)) rfl) ?_
  refine ai (r_iconst (pc := 177) (by decide +kernel : decode k_P_Reckoning_bind.2.1 177 = .ok (.iconst 1, 1)) ic_1) ?_
  rcases ite_some h with ⟨c1, h⟩ | ⟨c1, h⟩
  · refine ai (r_icmp_ne_f (pc := 178) 192 (by decide +kernel : decode k_P_Reckoning_bind.2.1 178 = .ok (.if_icmp .ne (14), 3)) (by decide) c1) ?_
    refine ai (r_aload_n (pc := 181) (k := 2) (by decide +kernel : decode k_P_Reckoning_bind.2.1 181 = .ok (.aload_n 3, 1)) rfl rfl) ?_
    rcases ite_some h with ⟨c2, h⟩ | ⟨c2, h⟩
    · refine ai (d_ifnull_t (pc := 182) (tgt := 192) c2 (by decide +kernel : decode k_P_Reckoning_bind.2.1 182 = .ok (.ifnull (10), 3)) (by decide)) ?_
      exact (P_Reckoning_bind_192_run hL h)
    · refine ai (d_ifnull_f (pc := 182) c2 (by decide +kernel : decode k_P_Reckoning_bind.2.1 182 = .ok (.ifnull (10), 3))) ?_
      obtain ⟨a3, rfl, hha3⟩ := gs_some h
      have h := hha3
      refine ai (p_aload_n (pc := 185) (k := 2) (by decide +kernel : decode k_P_Reckoning_bind.2.1 185 = .ok (.aload_n 3, 1)) rfl rfl) ?_
      obtain ⟨t4, h⟩ := gt_some h
      refine ai (r_getI (pc := 186) (by decide +kernel : decode k_P_Reckoning_bind.2.1 186 = .ok (.getfield 202, 3)) lg_8_202 (by decide) t4) ?_
      refine ai (r_goto (pc := 189) (tgt := 194) (by decide +kernel : decode k_P_Reckoning_bind.2.1 189 = .ok (.goto (5), 3)) (by decide)) ?_
      exact (P_Reckoning_bind_194_run hL h)
  · refine ai (r_icmp_ne_t (pc := 178) (tgt := 192) (by decide +kernel : decode k_P_Reckoning_bind.2.1 178 = .ok (.if_icmp .ne (14), 3)) (by decide) c1) ?_
    exact (P_Reckoning_bind_192_run hL h)
set_option maxRecDepth 100000 in
set_option maxHeartbeats 4000000 in
theorem P_Reckoning_bind_109_run {n : Nat} {x1 : Int32} {x3 : Option Nat} {x4 : Int32} {x5 : Int32} {m m' : Mem} {r : Unit} (hL : PL m) (h : P_Reckoning_bind_109 n x1 x3 x4 x5 m = some (r, m')) : Run k_P_Reckoning_bind 109 [(0, .ref 28), (1, .int x1), (3, va_rf x3), (4, .int x4), (5, .int x5)] [] m none m' ∧ PL m' := by
  induction n generalizing x1 x3 x4 x5 m r m' with
  | zero => exact absurd h (by simp [P_Reckoning_bind_109])
  | succ n ih =>
    rw [P_Reckoning_bind_109.eq_2] at h
    refine ai (r_iload (pc := 109) (k := 4) (by decide +kernel : decode k_P_Reckoning_bind.2.1 109 = .ok (.iload 5, 2)) rfl) ?_
    refine ai (p_aload_n (pc := 111) (k := 0) (by decide +kernel : decode k_P_Reckoning_bind.2.1 111 = .ok (.aload_n 0, 1)) rfl rfl) ?_
    refine ai (p_getr (pc := 112) (PR_1024_28 hL) (by decide +kernel : decode k_P_Reckoning_bind.2.1 112 = .ok (.getfield 54, 3)) lg_8_54 (PC_28 hL).1) ?_
    refine ai (r_getI (pc := 115) (by decide +kernel : decode k_P_Reckoning_bind.2.1 115 = .ok (.getfield 97, 3)) lg_8_97 (by decide) (PC_13 hL).1) ?_
    rcases ite_some h with ⟨c1, h⟩ | ⟨c1, h⟩
    · refine ai (r_icmp_ge_t (pc := 118) (tgt := 170) (by decide +kernel : decode k_P_Reckoning_bind.2.1 118 = .ok (.if_icmp .ge (52), 3)) (by decide) c1) ?_
      exact (ai (r_sub [0, 1, 2, 3] rfl) (P_Reckoning_bind_170_run hL h))
    · refine ai (r_icmp_ge_f (pc := 118) 170 (by decide +kernel : decode k_P_Reckoning_bind.2.1 118 = .ok (.if_icmp .ge (52), 3)) (by decide) c1) ?_
      refine ai (p_aload_n (pc := 121) (k := 0) (by decide +kernel : decode k_P_Reckoning_bind.2.1 121 = .ok (.aload_n 0, 1)) rfl rfl) ?_
      refine ai (p_getr (pc := 122) (PR_1024_28 hL) (by decide +kernel : decode k_P_Reckoning_bind.2.1 122 = .ok (.getfield 54, 3)) lg_8_54 (PC_28 hL).1) ?_
      refine ai (p_getr (pc := 125) (PR_513_13 hL) (by decide +kernel : decode k_P_Reckoning_bind.2.1 125 = .ok (.getfield 100, 3)) lg_8_100 (PC_13 hL).1) ?_
      refine ai (r_iload (pc := 128) (k := 4) (by decide +kernel : decode k_P_Reckoning_bind.2.1 128 = .ok (.iload 5, 2)) rfl) ?_
      obtain ⟨g2, h⟩ := gd_some h
      obtain ⟨a3, o4, h⟩ := gs_some h
      refine ai (p_aaldr (pc := 130) (j := 1) (by decide) o4 (by decide +kernel : decode k_P_Reckoning_bind.2.1 130 = .ok (.aaload, 1)) (PC_15 hL).1 (PC_15 hL).2 g2) ?_
      refine ai (p_astore (pc := 131) (by decide +kernel : decode k_P_Reckoning_bind.2.1 131 = .ok (.astore 6, 2)) (by decide) rfl (ls2 := [(6, .ref a3), (0, .ref 28), (1, .int x1), (3, va_rf x3), (4, .int x4), (5, .int x5)]) (i := 6)) ?_
      refine ai (p_aload (pc := 133) (k := 0) (by decide +kernel : decode k_P_Reckoning_bind.2.1 133 = .ok (.aload 6, 2)) rfl) ?_
      obtain ⟨t5, h⟩ := gt_some h
      refine ai (r_getI (pc := 135) (by decide +kernel : decode k_P_Reckoning_bind.2.1 135 = .ok (.getfield 141, 3)) lg_8_141 (by decide) t5) ?_
      rcases ite_some h with ⟨c6, h⟩ | ⟨c6, h⟩
      · refine ai (r_if_ne_f (pc := 138) 164 (by decide +kernel : decode k_P_Reckoning_bind.2.1 138 = .ok (.ifCond .ne (26), 3)) (by decide) c6) ?_
        refine ai (p_aload (pc := 141) (k := 0) (by decide +kernel : decode k_P_Reckoning_bind.2.1 141 = .ok (.aload 6, 2)) rfl) ?_
        refine ai (r_getI (pc := 143) (by decide +kernel : decode k_P_Reckoning_bind.2.1 143 = .ok (.getfield 196, 3)) lg_8_196 (by decide) t5) ?_
        rcases ite_some h with ⟨c7, h⟩ | ⟨c7, h⟩
        · refine ai (r_if_eq_t (pc := 146) (tgt := 164) (by decide +kernel : decode k_P_Reckoning_bind.2.1 146 = .ok (.ifCond .eq (18), 3)) (by decide) c7) ?_
          exact (ai (r_sub [1, 2, 3, 4, 5] rfl) (P_Reckoning_bind_164_run (fun _ _ _ _ _ _ _ q1 q3 => ih q1 q3) hL h))
        · refine ai (r_if_eq_f (pc := 146) 164 (by decide +kernel : decode k_P_Reckoning_bind.2.1 146 = .ok (.ifCond .eq (18), 3)) (by decide) c7) ?_
          refine ai (p_aload_n (pc := 149) (k := 1) (by decide +kernel : decode k_P_Reckoning_bind.2.1 149 = .ok (.aload_n 0, 1)) rfl rfl) ?_
          refine ai (p_aload (pc := 150) (k := 0) (by decide +kernel : decode k_P_Reckoning_bind.2.1 150 = .ok (.aload 6, 2)) rfl) ?_
          obtain ⟨r8, m9, hr8, h⟩ := bn_some h
          have q10 := P_Reckoning_isOutdone_run hL hr8
          have c11 := (PC_28 hL).1
          have hL := q10.2
          refine ai (q_callV (pc := 152) (As := [.ref a3]) (st := []) (st2 := [.int r8]) (b := 28) rfl rfl (by decide +kernel : decode k_P_Reckoning_bind.2.1 152 = .ok (.invokevirtual 199, 3)) lc_8_199 mo_P_Reckoning_isOutdone ⟨Nat.le_of_ble_eq_true rfl, Nat.le_of_ble_eq_true rfl⟩ (Nat.le_of_ble_eq_true rfl) (Nat.le_of_ble_eq_true rfl) c11 q10.1) ?_
          rcases ite_some h with ⟨c12, h⟩ | ⟨c12, h⟩
          · refine ai (r_if_ne_f (pc := 155) 164 (by decide +kernel : decode k_P_Reckoning_bind.2.1 155 = .ok (.ifCond .ne (9), 3)) (by decide) c12) ?_
            refine ai (p_aload (pc := 158) (k := 0) (by decide +kernel : decode k_P_Reckoning_bind.2.1 158 = .ok (.aload 6, 2)) rfl) ?_
            refine ai (p_astore_n (pc := 160) (by decide +kernel : decode k_P_Reckoning_bind.2.1 160 = .ok (.astore_n 3, 1)) rfl (by decide) rfl (ls2 := [(3, .ref a3), (6, .ref a3), (0, .ref 28), (1, .int x1), (4, .int x4), (5, .int x5)]) (i := 3)) ?_
            obtain ⟨v13, hv13, h⟩ := vb_some h
            refine ai (e_iinc (pc := 161) (k := 4) hv13 ic_1 (by decide +kernel : decode k_P_Reckoning_bind.2.1 161 = .ok (.iinc 4 (1), 3)) rfl (by decide) rfl (ls2 := [(4, .int v13), (3, .ref a3), (6, .ref a3), (0, .ref 28), (1, .int x1), (5, .int x5)]) (i := 4)) ?_
            exact (ai (r_sub [3, 4, 1, 0, 5] rfl) (P_Reckoning_bind_164_run (fun _ _ _ _ _ _ _ q1 q3 => ih q1 q3) hL h))
          · refine ai (r_if_ne_t (pc := 155) (tgt := 164) (by decide +kernel : decode k_P_Reckoning_bind.2.1 155 = .ok (.ifCond .ne (9), 3)) (by decide) c12) ?_
            exact (ai (r_sub [1, 2, 3, 4, 5] rfl) (P_Reckoning_bind_164_run (fun _ _ _ _ _ _ _ q1 q3 => ih q1 q3) hL h))
      · refine ai (r_if_ne_t (pc := 138) (tgt := 164) (by decide +kernel : decode k_P_Reckoning_bind.2.1 138 = .ok (.ifCond .ne (26), 3)) (by decide) c6) ?_
        exact (ai (r_sub [1, 2, 3, 4, 5] rfl) (P_Reckoning_bind_164_run (fun _ _ _ _ _ _ _ q1 q3 => ih q1 q3) hL h))
set_option maxRecDepth 100000 in
set_option maxHeartbeats 4000000 in
theorem P_Reckoning_bind_96_run {x1 : Int32} {x2 : Int32} {m m' : Mem} {r : Unit} (hL : PL m) (h : P_Reckoning_bind_96 x1 x2 m = some (r, m')) : Run k_P_Reckoning_bind 96 [(0, .ref 28), (1, .int x1), (2, .int x2)] [] m none m' ∧ PL m' := by
  unfold P_Reckoning_bind_96 at h
  refine ai (r_iload_n (pc := 96) (k := 2) (by decide +kernel : decode k_P_Reckoning_bind.2.1 96 = .ok (.iload_n 2, 1)) rfl rfl) ?_
  rcases ite_some h with ⟨c1, h⟩ | ⟨c1, h⟩
  · refine ai (r_if_ne_f (pc := 97) 101 (by decide +kernel : decode k_P_Reckoning_bind.2.1 97 = .ok (.ifCond .ne (4), 3)) (by decide) c1) ?_
    cases h
    exact ⟨r_vret rfl (by decide +kernel : decode k_P_Reckoning_bind.2.1 100 = .ok (.return_, 1)), hL⟩
  · refine ai (r_if_ne_t (pc := 97) (tgt := 101) (by decide +kernel : decode k_P_Reckoning_bind.2.1 97 = .ok (.ifCond .ne (4), 3)) (by decide) c1) ?_
    refine ai (r_null (pc := 101) (by decide +kernel : decode k_P_Reckoning_bind.2.1 101 = .ok (.aconst_null, 1))) ?_
    refine ai (n_astore_n (pc := 102) (by decide +kernel : decode k_P_Reckoning_bind.2.1 102 = .ok (.astore_n 3, 1)) rfl (by decide) rfl (ls2 := [(3, .null), (0, .ref 28), (1, .int x1), (2, .int x2)]) (i := 3)) ?_
    refine ai (r_iconst (pc := 103) (by decide +kernel : decode k_P_Reckoning_bind.2.1 103 = .ok (.iconst 0, 1)) ic_0) ?_
    refine ai (e_istore (pc := 104) rfl (by decide +kernel : decode k_P_Reckoning_bind.2.1 104 = .ok (.istore 4, 2)) (by decide) (by simp [f1, vrc, vrs, cti, ctr, ctl, ctn, cta]) (ls2 := [(4, .int 0), (3, .null), (0, .ref 28), (1, .int x1), (2, .int x2)]) (i := 4)) ?_
    refine ai (r_iconst (pc := 106) (by decide +kernel : decode k_P_Reckoning_bind.2.1 106 = .ok (.iconst 0, 1)) ic_0) ?_
    refine ai (e_istore (pc := 107) rfl (by decide +kernel : decode k_P_Reckoning_bind.2.1 107 = .ok (.istore 5, 2)) (by decide) rfl (ls2 := [(5, .int 0), (4, .int 0), (3, .null), (0, .ref 28), (1, .int x1), (2, .int x2)]) (i := 5)) ?_
    exact (ai (r_sub [3, 4, 2, 1, 0] rfl) (P_Reckoning_bind_109_run hL h))
set_option maxRecDepth 100000 in
set_option maxHeartbeats 4000000 in
theorem P_Reckoning_bind_9_run {n : Nat} {x1 : Int32} {x2 : Int32} {x3 : Int32} {m m' : Mem} {r : Unit} (hL : PL m) (h : P_Reckoning_bind_9 n x1 x2 x3 m = some (r, m')) : Run k_P_Reckoning_bind 9 [(0, .ref 28), (1, .int x1), (2, .int x2), (3, .int x3)] [] m none m' ∧ PL m' := by
  induction n generalizing x1 x2 x3 m r m' with
  | zero => exact absurd h (by simp [P_Reckoning_bind_9])
  | succ n ih =>
    rw [P_Reckoning_bind_9.eq_2] at h
    refine ai (r_iload_n (pc := 9) (k := 3) (by decide +kernel : decode k_P_Reckoning_bind.2.1 9 = .ok (.iload_n 3, 1)) rfl rfl) ?_
    refine ai (p_aload_n (pc := 10) (k := 0) (by decide +kernel : decode k_P_Reckoning_bind.2.1 10 = .ok (.aload_n 0, 1)) rfl rfl) ?_
    refine ai (p_getr (pc := 11) (PR_1024_28 hL) (by decide +kernel : decode k_P_Reckoning_bind.2.1 11 = .ok (.getfield 54, 3)) lg_8_54 (PC_28 hL).1) ?_
    refine ai (r_getI (pc := 14) (by decide +kernel : decode k_P_Reckoning_bind.2.1 14 = .ok (.getfield 97, 3)) lg_8_97 (by decide) (PC_13 hL).1) ?_
    rcases ite_some h with ⟨c1, h⟩ | ⟨c1, h⟩
    · refine ai (r_icmp_ge_t (pc := 17) (tgt := 96) (by decide +kernel : decode k_P_Reckoning_bind.2.1 17 = .ok (.if_icmp .ge (79), 3)) (by decide) c1) ?_
      exact (ai (r_sub [0, 1, 2] rfl) (P_Reckoning_bind_96_run hL h))
    · refine ai (r_icmp_ge_f (pc := 17) 96 (by decide +kernel : decode k_P_Reckoning_bind.2.1 17 = .ok (.if_icmp .ge (79), 3)) (by decide) c1) ?_
      refine ai (p_aload_n (pc := 20) (k := 0) (by decide +kernel : decode k_P_Reckoning_bind.2.1 20 = .ok (.aload_n 0, 1)) rfl rfl) ?_
      refine ai (p_getr (pc := 21) (PR_1024_28 hL) (by decide +kernel : decode k_P_Reckoning_bind.2.1 21 = .ok (.getfield 54, 3)) lg_8_54 (PC_28 hL).1) ?_
      refine ai (p_getr (pc := 24) (PR_513_13 hL) (by decide +kernel : decode k_P_Reckoning_bind.2.1 24 = .ok (.getfield 100, 3)) lg_8_100 (PC_13 hL).1) ?_
      refine ai (r_iload_n (pc := 27) (k := 3) (by decide +kernel : decode k_P_Reckoning_bind.2.1 27 = .ok (.iload_n 3, 1)) rfl rfl) ?_
      obtain ⟨g2, h⟩ := gd_some h
      obtain ⟨a3, o4, h⟩ := gs_some h
      refine ai (p_aaldr (pc := 28) (j := 1) (by decide) o4 (by decide +kernel : decode k_P_Reckoning_bind.2.1 28 = .ok (.aaload, 1)) (PC_15 hL).1 (PC_15 hL).2 g2) ?_
      refine ai (p_astore (pc := 29) (by decide +kernel : decode k_P_Reckoning_bind.2.1 29 = .ok (.astore 4, 2)) (by decide) rfl (ls2 := [(4, .ref a3), (0, .ref 28), (1, .int x1), (2, .int x2), (3, .int x3)]) (i := 4)) ?_
      refine ai (p_aload (pc := 31) (k := 0) (by decide +kernel : decode k_P_Reckoning_bind.2.1 31 = .ok (.aload 4, 2)) rfl) ?_
      refine ai (p_aload (pc := 33) (k := 0) (by decide +kernel : decode k_P_Reckoning_bind.2.1 33 = .ok (.aload 4, 2)) rfl) ?_
      obtain ⟨t5, h⟩ := gt_some h
      obtain ⟨r6, m7, hr6, h⟩ := bn_some h
      have q8 := P_Text_changesAward_run hL t5 hr6
      have hL := q8.2
      refine ai (q_callV (pc := 35) (As := []) (st := [.ref a3]) (st2 := [.int r6, .ref a3]) (b := a3) rfl rfl (by decide +kernel : decode k_P_Reckoning_bind.2.1 35 = .ok (.invokevirtual 188, 3)) lc_8_188 mo_P_Text_changesAward ⟨Nat.le_of_ble_eq_true rfl, Nat.le_of_ble_eq_true rfl⟩ (Nat.le_of_ble_eq_true rfl) (Nat.le_of_ble_eq_true rfl) t5 q8.1) ?_
      rcases ite_some h with ⟨c9, h⟩ | ⟨c9, h⟩
      · refine ai (r_if_ne_f (pc := 38) 62 (by decide +kernel : decode k_P_Reckoning_bind.2.1 38 = .ok (.ifCond .ne (24), 3)) (by decide) c9) ?_
        refine ai (p_aload (pc := 41) (k := 0) (by decide +kernel : decode k_P_Reckoning_bind.2.1 41 = .ok (.aload 4, 2)) rfl) ?_
        obtain ⟨t10, h⟩ := gt_some h
        refine ai (r_getI (pc := 43) (by decide +kernel : decode k_P_Reckoning_bind.2.1 43 = .ok (.getfield 137, 3)) lg_8_137 (by decide) t10) ?_
        rcases ite_some h with ⟨c11, h⟩ | ⟨c11, h⟩
        · refine ai (r_if_eq_t (pc := 46) (tgt := 62) (by decide +kernel : decode k_P_Reckoning_bind.2.1 46 = .ok (.ifCond .eq (16), 3)) (by decide) c11) ?_
          exact (ai (r_sub [1, 2, 3, 4, 0] rfl) (P_Reckoning_bind_62_run (fun _ _ _ _ _ _ q1 q3 => ih q1 q3) hL h))
        · refine ai (r_if_eq_f (pc := 46) 62 (by decide +kernel : decode k_P_Reckoning_bind.2.1 46 = .ok (.ifCond .eq (16), 3)) (by decide) c11) ?_
          refine ai (p_aload_n (pc := 49) (k := 1) (by decide +kernel : decode k_P_Reckoning_bind.2.1 49 = .ok (.aload_n 0, 1)) rfl rfl) ?_
          refine ai (p_aload (pc := 50) (k := 0) (by decide +kernel : decode k_P_Reckoning_bind.2.1 50 = .ok (.aload 4, 2)) rfl) ?_
          obtain ⟨r12, m13, hr12, h⟩ := bn_some h
          have q14 := P_Reckoning_someBindsHolds_run hL hr12
          have c15 := (PC_28 hL).1
          have hL := q14.2
          refine ai (q_callV (pc := 52) (As := [.ref a3]) (st := [.ref a3]) (st2 := [.int r12, .ref a3]) (b := 28) rfl rfl (by decide +kernel : decode k_P_Reckoning_bind.2.1 52 = .ok (.invokevirtual 192, 3)) lc_8_192 mo_P_Reckoning_someBindsHolds ⟨Nat.le_of_ble_eq_true rfl, Nat.le_of_ble_eq_true rfl⟩ (Nat.le_of_ble_eq_true rfl) (Nat.le_of_ble_eq_true rfl) c15 q14.1) ?_
          rcases ite_some h with ⟨c16, h⟩ | ⟨c16, h⟩
          · refine ai (r_if_eq_t (pc := 55) (tgt := 62) (by decide +kernel : decode k_P_Reckoning_bind.2.1 55 = .ok (.ifCond .eq (7), 3)) (by decide) c16) ?_
            exact (ai (r_sub [1, 2, 3, 4, 0] rfl) (P_Reckoning_bind_62_run (fun _ _ _ _ _ _ q1 q3 => ih q1 q3) hL h))
          · refine ai (r_if_eq_f (pc := 55) 62 (by decide +kernel : decode k_P_Reckoning_bind.2.1 55 = .ok (.ifCond .eq (7), 3)) (by decide) c16) ?_
            refine ai (r_iconst (pc := 58) (by decide +kernel : decode k_P_Reckoning_bind.2.1 58 = .ok (.iconst 1, 1)) ic_1) ?_
            refine ai (r_goto (pc := 59) (tgt := 63) (by decide +kernel : decode k_P_Reckoning_bind.2.1 59 = .ok (.goto (4), 3)) (by decide)) ?_
            exact (ai (r_sub [1, 2, 3, 4, 0] rfl) (P_Reckoning_bind_63_run (fun _ _ _ _ _ _ q1 q3 => ih q1 q3) hL h))
      · refine ai (r_if_ne_t (pc := 38) (tgt := 62) (by decide +kernel : decode k_P_Reckoning_bind.2.1 38 = .ok (.ifCond .ne (24), 3)) (by decide) c9) ?_
        exact (ai (r_sub [1, 2, 3, 4, 0] rfl) (P_Reckoning_bind_62_run (fun _ _ _ _ _ _ q1 q3 => ih q1 q3) hL h))
set_option maxRecDepth 100000 in
set_option maxHeartbeats 4000000 in
theorem P_Reckoning_bind_run {x1 : Int32} {m m' : Mem} {r : Unit} (hL : PL m) (h : P_Reckoning_bind x1 m = some (r, m')) : Run k_P_Reckoning_bind 0 [(0, .ref 28), (1, .int x1)] [] m none m' ∧ PL m' := by
  unfold P_Reckoning_bind at h
  refine ai (p_aload_n (pc := 0) (k := 0) (by decide +kernel : decode k_P_Reckoning_bind.2.1 0 = .ok (.aload_n 0, 1)) rfl rfl) ?_
  refine ai (r_iload_n (pc := 1) (k := 1) (by decide +kernel : decode k_P_Reckoning_bind.2.1 1 = .ok (.iload_n 1, 1)) rfl rfl) ?_
  obtain ⟨r1, m2, hr1, h⟩ := bn_some h
  have q3 := P_Reckoning_lookAt_run hL hr1
  have c4 := (PC_28 hL).1
  have hL := q3.2
  refine ai (q_callV (pc := 2) (As := [.int x1]) (st := []) (st2 := []) (b := 28) rfl rfl (by decide +kernel : decode k_P_Reckoning_bind.2.1 2 = .ok (.invokevirtual 185, 3)) lc_8_185 mo_P_Reckoning_lookAt ⟨Nat.le_of_ble_eq_true rfl, Nat.le_of_ble_eq_true rfl⟩ (Nat.le_of_ble_eq_true rfl) (Nat.le_of_ble_eq_true rfl) c4 q3.1) ?_
  refine ai (r_iconst (pc := 5) (by decide +kernel : decode k_P_Reckoning_bind.2.1 5 = .ok (.iconst 0, 1)) ic_0) ?_
  refine ai (e_istore_n (pc := 6) rfl (by decide +kernel : decode k_P_Reckoning_bind.2.1 6 = .ok (.istore_n 2, 1)) rfl (by decide) rfl (ls2 := [(2, .int 0), (0, .ref 28), (1, .int x1)]) (i := 2)) ?_
  refine ai (r_iconst (pc := 7) (by decide +kernel : decode k_P_Reckoning_bind.2.1 7 = .ok (.iconst 0, 1)) ic_0) ?_
  refine ai (e_istore_n (pc := 8) rfl (by decide +kernel : decode k_P_Reckoning_bind.2.1 8 = .ok (.istore_n 3, 1)) rfl (by decide) rfl (ls2 := [(3, .int 0), (2, .int 0), (0, .ref 28), (1, .int x1)]) (i := 3)) ?_
  exact (ai (r_sub [2, 3, 1, 0] rfl) (P_Reckoning_bind_9_run hL h))
set_option maxRecDepth 100000 in
set_option maxHeartbeats 4000000 in
theorem P_Text_firstClass_43_run {k2 : Nat → Int32 → Int32 → Mem → Option (Int32 × Mem)} {a0 : Nat} {x1 : Int32} {x2 : Int32} {m m' : Mem} {r : Int32} (hk2 : ∀ (a0 : Nat) (x1 : Int32) (x2 : Int32) (m : Mem) (r : Int32) (m' : Mem), PL m → mT m a0 = 11 → k2 a0 x1 x2 m = some (r, m') → Run k_P_Text_firstClass 2 [(0, .ref a0), (1, .int x1), (2, .int x2)] [] m (some (.int r)) m' ∧ PL m') (hL : PL m) (ht : mT m a0 = 11) (h : P_Text_firstClass_43 k2 a0 x1 x2 m = some (r, m')) : Run k_P_Text_firstClass 43 [(0, .ref a0), (1, .int x1), (2, .int x2)] [] m (some (.int r)) m' ∧ PL m' := by
  unfold P_Text_firstClass_43 at h
  obtain ⟨v1, hv1, h⟩ := vb_some h
  refine ai (e_iinc (pc := 43) (k := 2) hv1 ic_1 (by decide +kernel : decode k_P_Text_firstClass.2.1 43 = .ok (.iinc 2 (1), 3)) rfl (by decide) rfl (ls2 := [(2, .int v1), (0, .ref a0), (1, .int x1)]) (i := 2)) ?_
  refine ai (r_goto (pc := 46) (tgt := 2) (by decide +kernel : decode k_P_Text_firstClass.2.1 46 = .ok (.goto (-44), 3)) (by decide)) ?_
  exact (ai (r_sub [1, 2, 0] rfl) (hk2 a0 x1 v1 m _ _ hL ht h))
set_option maxRecDepth 100000 in
set_option maxHeartbeats 4000000 in
theorem P_Text_firstClass_2_run {n : Nat} {a0 : Nat} {x1 : Int32} {x2 : Int32} {m m' : Mem} {r : Int32} (hL : PL m) (ht : mT m a0 = 11) (h : P_Text_firstClass_2 n a0 x1 x2 m = some (r, m')) : Run k_P_Text_firstClass 2 [(0, .ref a0), (1, .int x1), (2, .int x2)] [] m (some (.int r)) m' ∧ PL m' := by
  induction n generalizing a0 x1 x2 m r m' with
  | zero => exact absurd h (by simp [P_Text_firstClass_2])
  | succ n ih =>
    rw [P_Text_firstClass_2.eq_2] at h
    refine ai (r_iload_n (pc := 2) (k := 2) (by decide +kernel : decode k_P_Text_firstClass.2.1 2 = .ok (.iload_n 2, 1)) rfl rfl) ?_
    refine ai (p_aload_n (pc := 3) (k := 0) (by decide +kernel : decode k_P_Text_firstClass.2.1 3 = .ok (.aload_n 0, 1)) rfl rfl) ?_
    refine ai (r_getI (pc := 4) (by decide +kernel : decode k_P_Text_firstClass.2.1 4 = .ok (.getfield 56, 3)) lg_10_56 (by decide) ht) ?_
    rcases ite_some h with ⟨c1, h⟩ | ⟨c1, h⟩
    · refine ai (r_icmp_ge_t (pc := 7) (tgt := 49) (by decide +kernel : decode k_P_Text_firstClass.2.1 7 = .ok (.if_icmp .ge (42), 3)) (by decide) c1) ?_
      refine ai (r_iconst (pc := 49) (by decide +kernel : decode k_P_Text_firstClass.2.1 49 = .ok (.iconst (-1), 1)) ic_m1) ?_
      cases h
      exact ⟨r_iret rfl (by decide +kernel : decode k_P_Text_firstClass.2.1 50 = .ok (.ireturn, 1)), hL⟩
    · refine ai (r_icmp_ge_f (pc := 7) 49 (by decide +kernel : decode k_P_Text_firstClass.2.1 7 = .ok (.if_icmp .ge (42), 3)) (by decide) c1) ?_
      refine ai (p_aload_n (pc := 10) (k := 0) (by decide +kernel : decode k_P_Text_firstClass.2.1 10 = .ok (.aload_n 0, 1)) rfl rfl) ?_
      obtain ⟨a2, o3, h⟩ := gs_some h
      refine ai (p_getr (pc := 11) o3 (by decide +kernel : decode k_P_Text_firstClass.2.1 11 = .ok (.getfield 43, 3)) lg_10_43 ht) ?_
      refine ai (r_iload_n (pc := 14) (k := 2) (by decide +kernel : decode k_P_Text_firstClass.2.1 14 = .ok (.iload_n 2, 1)) rfl rfl) ?_
      obtain ⟨t4, h⟩ := gt_some h
      obtain ⟨g5, h⟩ := gd_some h
      obtain ⟨a6, o7, h⟩ := gs_some h
      refine ai (p_aaldr (pc := 15) (j := 0) (by decide) o7 (by decide +kernel : decode k_P_Text_firstClass.2.1 15 = .ok (.aaload, 1)) t4 rfl g5) ?_
      obtain ⟨t8, h⟩ := gt_some h
      refine ai (r_getI (pc := 16) (by decide +kernel : decode k_P_Text_firstClass.2.1 16 = .ok (.getfield 64, 3)) lg_10_64 (by decide) t8) ?_
      refine ai (r_bipush (pc := 19) (by decide +kernel : decode k_P_Text_firstClass.2.1 19 = .ok (.bipush (34), 2)) (by decide : _ = (34 : Int32))) ?_
      rcases ite_some h with ⟨c9, h⟩ | ⟨c9, h⟩
      · refine ai (r_icmp_ne_f (pc := 21) 43 (by decide +kernel : decode k_P_Text_firstClass.2.1 21 = .ok (.if_icmp .ne (22), 3)) (by decide) c9) ?_
        refine ai (p_aload_n (pc := 24) (k := 0) (by decide +kernel : decode k_P_Text_firstClass.2.1 24 = .ok (.aload_n 0, 1)) rfl rfl) ?_
        obtain ⟨a10, o11, h⟩ := gs_some h
        refine ai (p_getr (pc := 25) o11 (by decide +kernel : decode k_P_Text_firstClass.2.1 25 = .ok (.getfield 43, 3)) lg_10_43 ht) ?_
        refine ai (r_iload_n (pc := 28) (k := 2) (by decide +kernel : decode k_P_Text_firstClass.2.1 28 = .ok (.iload_n 2, 1)) rfl rfl) ?_
        obtain ⟨t12, h⟩ := gt_some h
        obtain ⟨g13, h⟩ := gd_some h
        obtain ⟨a14, o15, h⟩ := gs_some h
        refine ai (p_aaldr (pc := 29) (j := 0) (by decide) o15 (by decide +kernel : decode k_P_Text_firstClass.2.1 29 = .ok (.aaload, 1)) t12 rfl g13) ?_
        obtain ⟨t16, h⟩ := gt_some h
        refine ai (r_getI (pc := 30) (by decide +kernel : decode k_P_Text_firstClass.2.1 30 = .ok (.getfield 65, 3)) lg_10_65 (by decide) t16) ?_
        refine ai (r_iload_n (pc := 33) (k := 1) (by decide +kernel : decode k_P_Text_firstClass.2.1 33 = .ok (.iload_n 1, 1)) rfl rfl) ?_
        refine ai (r_ishr (pc := 34) (by decide +kernel : decode k_P_Text_firstClass.2.1 34 = .ok (.ishr, 1))) ?_
        refine ai (r_iconst (pc := 35) (by decide +kernel : decode k_P_Text_firstClass.2.1 35 = .ok (.iconst 1, 1)) ic_1) ?_
        refine ai (r_iand (pc := 36) (by decide +kernel : decode k_P_Text_firstClass.2.1 36 = .ok (.iand, 1))) ?_
        refine ai (r_iconst (pc := 37) (by decide +kernel : decode k_P_Text_firstClass.2.1 37 = .ok (.iconst 1, 1)) ic_1) ?_
        rcases ite_some h with ⟨c17, h⟩ | ⟨c17, h⟩
        · refine ai (r_icmp_ne_f (pc := 38) 43 (by decide +kernel : decode k_P_Text_firstClass.2.1 38 = .ok (.if_icmp .ne (5), 3)) (by decide) c17) ?_
          refine ai (r_iload_n (pc := 41) (k := 2) (by decide +kernel : decode k_P_Text_firstClass.2.1 41 = .ok (.iload_n 2, 1)) rfl rfl) ?_
          cases h
          exact ⟨r_iret rfl (by decide +kernel : decode k_P_Text_firstClass.2.1 42 = .ok (.ireturn, 1)), hL⟩
        · refine ai (r_icmp_ne_t (pc := 38) (tgt := 43) (by decide +kernel : decode k_P_Text_firstClass.2.1 38 = .ok (.if_icmp .ne (5), 3)) (by decide) c17) ?_
          exact (P_Text_firstClass_43_run (fun _ _ _ _ _ _ q1 q2 q3 => ih q1 q2 q3) hL ht h)
      · refine ai (r_icmp_ne_t (pc := 21) (tgt := 43) (by decide +kernel : decode k_P_Text_firstClass.2.1 21 = .ok (.if_icmp .ne (22), 3)) (by decide) c9) ?_
        exact (P_Text_firstClass_43_run (fun _ _ _ _ _ _ q1 q2 q3 => ih q1 q2 q3) hL ht h)
set_option maxRecDepth 100000 in
set_option maxHeartbeats 4000000 in
theorem P_Text_firstClass_run {a0 : Nat} {x1 : Int32} {m m' : Mem} {r : Int32} (hL : PL m) (ht : mT m a0 = 11) (h : P_Text_firstClass a0 x1 m = some (r, m')) : Run k_P_Text_firstClass 0 [(0, .ref a0), (1, .int x1)] [] m (some (.int r)) m' ∧ PL m' := by
  unfold P_Text_firstClass at h
  refine ai (r_iconst (pc := 0) (by decide +kernel : decode k_P_Text_firstClass.2.1 0 = .ok (.iconst 0, 1)) ic_0) ?_
  refine ai (e_istore_n (pc := 1) rfl (by decide +kernel : decode k_P_Text_firstClass.2.1 1 = .ok (.istore_n 2, 1)) rfl (by decide) rfl (ls2 := [(2, .int 0), (0, .ref a0), (1, .int x1)]) (i := 2)) ?_
  exact (ai (r_sub [1, 2, 0] rfl) (P_Text_firstClass_2_run hL ht h))
set_option maxRecDepth 100000 in
set_option maxHeartbeats 4000000 in
theorem P_Reckoning_chosenClass_49_run {k15 : Option Nat → Option Nat → Option Nat → Option Nat → Int32 → Mem → Option (Int32 × Mem)} {x1 : Option Nat} {x2 : Option Nat} {x3 : Option Nat} {x4 : Option Nat} {x5 : Int32} {m m' : Mem} {r : Int32} (hk15 : ∀ (x1 : Option Nat) (x2 : Option Nat) (x3 : Option Nat) (x4 : Option Nat) (x5 : Int32) (m : Mem) (r : Int32) (m' : Mem), PL m → k15 x1 x2 x3 x4 x5 m = some (r, m') → Run k_P_Reckoning_chosenClass 15 [(0, .ref 28), (1, va_rf x1), (2, va_rf x2), (3, va_rf x3), (4, va_rf x4), (5, .int x5)] [] m (some (.int r)) m' ∧ PL m') (hL : PL m) (h : P_Reckoning_chosenClass_49 k15 x1 x2 x3 x4 x5 m = some (r, m')) : Run k_P_Reckoning_chosenClass 49 [(0, .ref 28), (1, va_rf x1), (2, va_rf x2), (3, va_rf x3), (4, va_rf x4), (5, .int x5)] [] m (some (.int r)) m' ∧ PL m' := by
  unfold P_Reckoning_chosenClass_49 at h
  obtain ⟨v1, hv1, h⟩ := vb_some h
  refine ai (e_iinc (pc := 49) (k := 5) hv1 ic_1 (by decide +kernel : decode k_P_Reckoning_chosenClass.2.1 49 = .ok (.iinc 5 (1), 3)) rfl (by decide) (by simp [f1, vrc, vrs, cti, ctr, ctl, ctn, cta]) (ls2 := [(5, .int v1), (0, .ref 28), (1, va_rf x1), (2, va_rf x2), (3, va_rf x3), (4, va_rf x4)]) (i := 5)) ?_
  refine ai (r_goto (pc := 52) (tgt := 15) (by decide +kernel : decode k_P_Reckoning_chosenClass.2.1 52 = .ok (.goto (-37), 3)) (by decide)) ?_
  exact (ai (r_sub [1, 2, 3, 4, 5, 0] rfl) (hk15 x1 x2 x3 x4 v1 m _ _ hL h))
set_option maxRecDepth 100000 in
set_option maxHeartbeats 4000000 in
theorem P_Reckoning_chosenClass_149_run {k67 : Option Nat → Option Nat → Int32 → Int32 → Int32 → Int32 → Mem → Option (Int32 × Mem)} {x1 : Option Nat} {x4 : Option Nat} {x5 : Int32} {x6 : Int32} {x7 : Int32} {x8 : Int32} {m m' : Mem} {r : Int32} (hk67 : ∀ (x1 : Option Nat) (x4 : Option Nat) (x5 : Int32) (x6 : Int32) (x7 : Int32) (x8 : Int32) (m : Mem) (r : Int32) (m' : Mem), PL m → k67 x1 x4 x5 x6 x7 x8 m = some (r, m') → Run k_P_Reckoning_chosenClass 67 [(0, .ref 28), (1, va_rf x1), (4, va_rf x4), (5, .int x5), (6, .int x6), (7, .int x7), (8, .int x8)] [] m (some (.int r)) m' ∧ PL m') (hL : PL m) (h : P_Reckoning_chosenClass_149 k67 x1 x4 x5 x6 x7 x8 m = some (r, m')) : Run k_P_Reckoning_chosenClass 149 [(0, .ref 28), (1, va_rf x1), (4, va_rf x4), (5, .int x5), (6, .int x6), (7, .int x7), (8, .int x8)] [] m (some (.int r)) m' ∧ PL m' := by
  unfold P_Reckoning_chosenClass_149 at h
  obtain ⟨v1, hv1, h⟩ := vb_some h
  refine ai (e_iinc (pc := 149) (k := 6) hv1 ic_1 (by decide +kernel : decode k_P_Reckoning_chosenClass.2.1 149 = .ok (.iinc 8 (1), 3)) rfl (by decide) rfl (ls2 := [(8, .int v1), (0, .ref 28), (1, va_rf x1), (4, va_rf x4), (5, .int x5), (6, .int x6), (7, .int x7)]) (i := 8)) ?_
  refine ai (r_goto (pc := 152) (tgt := 67) (by decide +kernel : decode k_P_Reckoning_chosenClass.2.1 152 = .ok (.goto (-85), 3)) (by decide)) ?_
  exact (ai (r_sub [1, 2, 3, 4, 5, 6, 0] rfl) (hk67 x1 x4 x5 x6 x7 v1 m _ _ hL h))
set_option maxRecDepth 100000 in
set_option maxHeartbeats 4000000 in
theorem P_Reckoning_chosenClass_137_run {k67 : Option Nat → Option Nat → Int32 → Int32 → Int32 → Int32 → Mem → Option (Int32 × Mem)} {x1 : Option Nat} {x4 : Option Nat} {x8 : Int32} {x9 : Int32} {x10 : Int32} {m m' : Mem} {r : Int32} (hk67 : ∀ (x1 : Option Nat) (x4 : Option Nat) (x5 : Int32) (x6 : Int32) (x7 : Int32) (x8 : Int32) (m : Mem) (r : Int32) (m' : Mem), PL m → k67 x1 x4 x5 x6 x7 x8 m = some (r, m') → Run k_P_Reckoning_chosenClass 67 [(0, .ref 28), (1, va_rf x1), (4, va_rf x4), (5, .int x5), (6, .int x6), (7, .int x7), (8, .int x8)] [] m (some (.int r)) m' ∧ PL m') (hL : PL m) (h : P_Reckoning_chosenClass_137 k67 x1 x4 x8 x9 x10 m = some (r, m')) : Run k_P_Reckoning_chosenClass 137 [(0, .ref 28), (1, va_rf x1), (4, va_rf x4), (8, .int x8), (9, .int x9), (10, .int x10)] [] m (some (.int r)) m' ∧ PL m' := by
  unfold P_Reckoning_chosenClass_137 at h
  refine ai (r_iload (pc := 137) (k := 3) (by decide +kernel : decode k_P_Reckoning_chosenClass.2.1 137 = .ok (.iload 8, 2)) rfl) ?_
  refine ai (e_istore (pc := 139) rfl (by decide +kernel : decode k_P_Reckoning_chosenClass.2.1 139 = .ok (.istore 5, 2)) (by decide) (by simp [f1, vrc, vrs, cti, ctr, ctl, ctn, cta]) (ls2 := [(5, .int x8), (0, .ref 28), (1, va_rf x1), (4, va_rf x4), (8, .int x8), (9, .int x9), (10, .int x10)]) (i := 5)) ?_
  refine ai (r_iload (pc := 141) (k := 5) (by decide +kernel : decode k_P_Reckoning_chosenClass.2.1 141 = .ok (.iload 9, 2)) rfl) ?_
  refine ai (e_istore (pc := 143) rfl (by decide +kernel : decode k_P_Reckoning_chosenClass.2.1 143 = .ok (.istore 6, 2)) (by decide) rfl (ls2 := [(6, .int x9), (5, .int x8), (0, .ref 28), (1, va_rf x1), (4, va_rf x4), (8, .int x8), (9, .int x9), (10, .int x10)]) (i := 6)) ?_
  refine ai (r_iload (pc := 145) (k := 7) (by decide +kernel : decode k_P_Reckoning_chosenClass.2.1 145 = .ok (.iload 10, 2)) rfl) ?_
  refine ai (e_istore (pc := 147) rfl (by decide +kernel : decode k_P_Reckoning_chosenClass.2.1 147 = .ok (.istore 7, 2)) (by decide) rfl (ls2 := [(7, .int x10), (6, .int x9), (5, .int x8), (0, .ref 28), (1, va_rf x1), (4, va_rf x4), (8, .int x8), (9, .int x9), (10, .int x10)]) (i := 7)) ?_
  exact (ai (r_sub [3, 4, 5, 2, 1, 0, 6] rfl) (P_Reckoning_chosenClass_149_run hk67 hL h))
set_option maxRecDepth 100000 in
set_option maxHeartbeats 4000000 in
theorem P_Reckoning_chosenClass_102_run {k67 : Option Nat → Option Nat → Int32 → Int32 → Int32 → Int32 → Mem → Option (Int32 × Mem)} {x1 : Option Nat} {x4 : Option Nat} {x5 : Int32} {x6 : Int32} {x7 : Int32} {x8 : Int32} {s0 : Int32} {m m' : Mem} {r : Int32} (hk67 : ∀ (x1 : Option Nat) (x4 : Option Nat) (x5 : Int32) (x6 : Int32) (x7 : Int32) (x8 : Int32) (m : Mem) (r : Int32) (m' : Mem), PL m → k67 x1 x4 x5 x6 x7 x8 m = some (r, m') → Run k_P_Reckoning_chosenClass 67 [(0, .ref 28), (1, va_rf x1), (4, va_rf x4), (5, .int x5), (6, .int x6), (7, .int x7), (8, .int x8)] [] m (some (.int r)) m' ∧ PL m') (hL : PL m) (h : P_Reckoning_chosenClass_102 k67 x1 x4 x5 x6 x7 x8 s0 m = some (r, m')) : Run k_P_Reckoning_chosenClass 102 [(0, .ref 28), (1, va_rf x1), (4, va_rf x4), (5, .int x5), (6, .int x6), (7, .int x7), (8, .int x8)] [.int s0] m (some (.int r)) m' ∧ PL m' := by
  unfold P_Reckoning_chosenClass_102 at h
  refine ai (e_istore (pc := 102) rfl (by decide +kernel : decode k_P_Reckoning_chosenClass.2.1 102 = .ok (.istore 9, 2)) (by decide) rfl (ls2 := [(9, .int s0), (0, .ref 28), (1, va_rf x1), (4, va_rf x4), (5, .int x5), (6, .int x6), (7, .int x7), (8, .int x8)]) (i := 9)) ?_
  refine ai (p_aload_n (pc := 104) (k := 1) (by decide +kernel : decode k_P_Reckoning_chosenClass.2.1 104 = .ok (.aload_n 0, 1)) rfl rfl) ?_
  refine ai (p_getr (pc := 105) (PR_1025_28 hL) (by decide +kernel : decode k_P_Reckoning_chosenClass.2.1 105 = .ok (.getfield 58, 3)) lg_8_58 (PC_28 hL).1) ?_
  refine ai (r_aload_n (pc := 108) (k := 2) (by decide +kernel : decode k_P_Reckoning_chosenClass.2.1 108 = .ok (.aload_n 1, 1)) rfl rfl) ?_
  refine ai (r_iload (pc := 109) (k := 7) (by decide +kernel : decode k_P_Reckoning_chosenClass.2.1 109 = .ok (.iload 8, 2)) rfl) ?_
  obtain ⟨r1, m2, hr1, h⟩ := bn_some h
  have q3 := P_Scene_marginOf_run hL hr1
  have c4 := (PC_25 hL).1
  have hL := q3.2
  refine ai (q_callV (pc := 111) (As := [va_rf x1, .int x8]) (st := []) (st2 := [.int r1]) (b := 25) (by simp [lv_args, vrc, vrs, cti, ctr, ctl, ctn, cta]) rfl (by decide +kernel : decode k_P_Reckoning_chosenClass.2.1 111 = .ok (.invokevirtual 268, 3)) lc_8_268 mo_P_Scene_marginOf ⟨Nat.le_of_ble_eq_true rfl, Nat.le_of_ble_eq_true rfl⟩ (by simp [lg_sl, vrc, vrs, cti, ctr, ctl, ctn, cta, k_P_Scene_marginOf]) (Nat.le_of_ble_eq_true rfl) c4 q3.1) ?_
  refine ai (e_istore (pc := 114) rfl (by decide +kernel : decode k_P_Reckoning_chosenClass.2.1 114 = .ok (.istore 10, 2)) (by decide) rfl (ls2 := [(10, .int r1), (9, .int s0), (0, .ref 28), (1, va_rf x1), (4, va_rf x4), (5, .int x5), (6, .int x6), (7, .int x7), (8, .int x8)]) (i := 10)) ?_
  refine ai (r_iload (pc := 116) (k := 1) (by decide +kernel : decode k_P_Reckoning_chosenClass.2.1 116 = .ok (.iload 9, 2)) rfl) ?_
  refine ai (r_iload (pc := 118) (k := 6) (by decide +kernel : decode k_P_Reckoning_chosenClass.2.1 118 = .ok (.iload 6, 2)) rfl) ?_
  rcases ite_some h with ⟨c5, h⟩ | ⟨c5, h⟩
  · refine ai (r_icmp_gt_t (pc := 120) (tgt := 137) (by decide +kernel : decode k_P_Reckoning_chosenClass.2.1 120 = .ok (.if_icmp .gt (17), 3)) (by decide) c5) ?_
    exact (ai (r_sub [2, 3, 4, 8, 1, 0] rfl) (P_Reckoning_chosenClass_137_run hk67 hL h))
  · refine ai (r_icmp_gt_f (pc := 120) 137 (by decide +kernel : decode k_P_Reckoning_chosenClass.2.1 120 = .ok (.if_icmp .gt (17), 3)) (by decide) c5) ?_
    refine ai (r_iload (pc := 123) (k := 1) (by decide +kernel : decode k_P_Reckoning_chosenClass.2.1 123 = .ok (.iload 9, 2)) rfl) ?_
    refine ai (r_iload (pc := 125) (k := 6) (by decide +kernel : decode k_P_Reckoning_chosenClass.2.1 125 = .ok (.iload 6, 2)) rfl) ?_
    rcases ite_some h with ⟨c6, h⟩ | ⟨c6, h⟩
    · refine ai (r_icmp_ne_f (pc := 127) 149 (by decide +kernel : decode k_P_Reckoning_chosenClass.2.1 127 = .ok (.if_icmp .ne (22), 3)) (by decide) c6) ?_
      refine ai (r_iload (pc := 130) (k := 0) (by decide +kernel : decode k_P_Reckoning_chosenClass.2.1 130 = .ok (.iload 10, 2)) rfl) ?_
      refine ai (r_iload (pc := 132) (k := 7) (by decide +kernel : decode k_P_Reckoning_chosenClass.2.1 132 = .ok (.iload 7, 2)) rfl) ?_
      rcases ite_some h with ⟨c7, h⟩ | ⟨c7, h⟩
      · refine ai (r_icmp_le_t (pc := 134) (tgt := 149) (by decide +kernel : decode k_P_Reckoning_chosenClass.2.1 134 = .ok (.if_icmp .le (15), 3)) (by decide) c7) ?_
        exact (ai (r_sub [2, 3, 4, 5, 6, 7, 8] rfl) (P_Reckoning_chosenClass_149_run hk67 hL h))
      · refine ai (r_icmp_le_f (pc := 134) 149 (by decide +kernel : decode k_P_Reckoning_chosenClass.2.1 134 = .ok (.if_icmp .le (15), 3)) (by decide) c7) ?_
        exact (ai (r_sub [2, 3, 4, 8, 1, 0] rfl) (P_Reckoning_chosenClass_137_run hk67 hL h))
    · refine ai (r_icmp_ne_t (pc := 127) (tgt := 149) (by decide +kernel : decode k_P_Reckoning_chosenClass.2.1 127 = .ok (.if_icmp .ne (22), 3)) (by decide) c6) ?_
      exact (ai (r_sub [2, 3, 4, 5, 6, 7, 8] rfl) (P_Reckoning_chosenClass_149_run hk67 hL h))
set_option maxRecDepth 100000 in
set_option maxHeartbeats 4000000 in
theorem P_Reckoning_chosenClass_67_run {n : Nat} {x1 : Option Nat} {x4 : Option Nat} {x5 : Int32} {x6 : Int32} {x7 : Int32} {x8 : Int32} {m m' : Mem} {r : Int32} (hL : PL m) (h : P_Reckoning_chosenClass_67 n x1 x4 x5 x6 x7 x8 m = some (r, m')) : Run k_P_Reckoning_chosenClass 67 [(0, .ref 28), (1, va_rf x1), (4, va_rf x4), (5, .int x5), (6, .int x6), (7, .int x7), (8, .int x8)] [] m (some (.int r)) m' ∧ PL m' := by
  induction n generalizing x1 x4 x5 x6 x7 x8 m r m' with
  | zero => exact absurd h (by simp [P_Reckoning_chosenClass_67])
  | succ n ih =>
    rw [P_Reckoning_chosenClass_67.eq_2] at h
    refine ai (r_iload (pc := 67) (k := 6) (by decide +kernel : decode k_P_Reckoning_chosenClass.2.1 67 = .ok (.iload 8, 2)) rfl) ?_
    obtain ⟨a1, rfl, hha1⟩ := gs_some h
    have h := hha1
    refine ai (p_aload_n (pc := 69) (k := 1) (by decide +kernel : decode k_P_Reckoning_chosenClass.2.1 69 = .ok (.aload_n 1, 1)) rfl rfl) ?_
    obtain ⟨t2, h⟩ := gt_some h
    refine ai (r_getI (pc := 70) (by decide +kernel : decode k_P_Reckoning_chosenClass.2.1 70 = .ok (.getfield 265, 3)) lg_8_265 (by decide) t2) ?_
    rcases ite_some h with ⟨c3, h⟩ | ⟨c3, h⟩
    · refine ai (r_icmp_ge_t (pc := 73) (tgt := 155) (by decide +kernel : decode k_P_Reckoning_chosenClass.2.1 73 = .ok (.if_icmp .ge (82), 3)) (by decide) c3) ?_
      refine ai (r_iload (pc := 155) (k := 3) (by decide +kernel : decode k_P_Reckoning_chosenClass.2.1 155 = .ok (.iload 5, 2)) rfl) ?_
      cases h
      exact ⟨r_iret rfl (by decide +kernel : decode k_P_Reckoning_chosenClass.2.1 157 = .ok (.ireturn, 1)), hL⟩
    · refine ai (r_icmp_ge_f (pc := 73) 155 (by decide +kernel : decode k_P_Reckoning_chosenClass.2.1 73 = .ok (.if_icmp .ge (82), 3)) (by decide) c3) ?_
      obtain ⟨a4, rfl, hha4⟩ := gs_some h
      have h := hha4
      refine ai (p_aload (pc := 76) (k := 2) (by decide +kernel : decode k_P_Reckoning_chosenClass.2.1 76 = .ok (.aload 4, 2)) rfl) ?_
      refine ai (r_iload (pc := 78) (k := 6) (by decide +kernel : decode k_P_Reckoning_chosenClass.2.1 78 = .ok (.iload 8, 2)) rfl) ?_
      obtain ⟨t5, h⟩ := gt_some h
      obtain ⟨g6, h⟩ := gd_some h
      refine ai (p_iald (pc := 80) (by decide +kernel : decode k_P_Reckoning_chosenClass.2.1 80 = .ok (.iaload, 1)) t5 rfl g6) ?_
      rcases ite_some h with ⟨c7, h⟩ | ⟨c7, h⟩
      · refine ai (r_if_le_t (pc := 81) (tgt := 149) (by decide +kernel : decode k_P_Reckoning_chosenClass.2.1 81 = .ok (.ifCond .le (68), 3)) (by decide) c7) ?_
        exact (P_Reckoning_chosenClass_149_run (fun _ _ _ _ _ _ _ _ _ q1 q3 => ih q1 q3) hL h)
      · refine ai (r_if_le_f (pc := 81) 149 (by decide +kernel : decode k_P_Reckoning_chosenClass.2.1 81 = .ok (.ifCond .le (68), 3)) (by decide) c7) ?_
        refine ai (p_aload_n (pc := 84) (k := 1) (by decide +kernel : decode k_P_Reckoning_chosenClass.2.1 84 = .ok (.aload_n 1, 1)) rfl rfl) ?_
        refine ai (r_getI (pc := 85) (by decide +kernel : decode k_P_Reckoning_chosenClass.2.1 85 = .ok (.getfield 249, 3)) lg_8_249 (by decide) t2) ?_
        refine ai (r_bipush (pc := 88) (by decide +kernel : decode k_P_Reckoning_chosenClass.2.1 88 = .ok (.bipush (52), 2)) (by decide : _ = (52 : Int32))) ?_
        rcases ite_some h with ⟨c8, h⟩ | ⟨c8, h⟩
        · refine ai (r_icmp_ne_f (pc := 90) 101 (by decide +kernel : decode k_P_Reckoning_chosenClass.2.1 90 = .ok (.if_icmp .ne (11), 3)) (by decide) c8) ?_
          refine ai (p_aload (pc := 93) (k := 2) (by decide +kernel : decode k_P_Reckoning_chosenClass.2.1 93 = .ok (.aload 4, 2)) rfl) ?_
          refine ai (r_iload (pc := 95) (k := 6) (by decide +kernel : decode k_P_Reckoning_chosenClass.2.1 95 = .ok (.iload 8, 2)) rfl) ?_
          obtain ⟨g9, h⟩ := gd_some h
          refine ai (p_iald (pc := 97) (by decide +kernel : decode k_P_Reckoning_chosenClass.2.1 97 = .ok (.iaload, 1)) t5 rfl g9) ?_
          refine ai (r_goto (pc := 98) (tgt := 102) (by decide +kernel : decode k_P_Reckoning_chosenClass.2.1 98 = .ok (.goto (4), 3)) (by decide)) ?_
          exact (P_Reckoning_chosenClass_102_run (fun _ _ _ _ _ _ _ _ _ q1 q3 => ih q1 q3) hL h)
        · refine ai (r_icmp_ne_t (pc := 90) (tgt := 101) (by decide +kernel : decode k_P_Reckoning_chosenClass.2.1 90 = .ok (.if_icmp .ne (11), 3)) (by decide) c8) ?_
          refine ai (r_iconst (pc := 101) (by decide +kernel : decode k_P_Reckoning_chosenClass.2.1 101 = .ok (.iconst 1, 1)) ic_1) ?_
          exact (P_Reckoning_chosenClass_102_run (fun _ _ _ _ _ _ _ _ _ q1 q3 => ih q1 q3) hL h)
set_option maxRecDepth 100000 in
set_option maxHeartbeats 4000000 in
theorem P_Reckoning_chosenClass_55_run {x1 : Option Nat} {x4 : Option Nat} {m m' : Mem} {r : Int32} (hL : PL m) (h : P_Reckoning_chosenClass_55 x1 x4 m = some (r, m')) : Run k_P_Reckoning_chosenClass 55 [(0, .ref 28), (1, va_rf x1), (4, va_rf x4)] [] m (some (.int r)) m' ∧ PL m' := by
  unfold P_Reckoning_chosenClass_55 at h
  refine ai (r_iconst (pc := 55) (by decide +kernel : decode k_P_Reckoning_chosenClass.2.1 55 = .ok (.iconst (-1), 1)) ic_m1) ?_
  refine ai (e_istore (pc := 56) rfl (by decide +kernel : decode k_P_Reckoning_chosenClass.2.1 56 = .ok (.istore 5, 2)) (by decide) (by simp [f1, vrc, vrs, cti, ctr, ctl, ctn, cta]) (ls2 := [(5, .int (-1)), (0, .ref 28), (1, va_rf x1), (4, va_rf x4)]) (i := 5)) ?_
  refine ai (r_iconst (pc := 58) (by decide +kernel : decode k_P_Reckoning_chosenClass.2.1 58 = .ok (.iconst 0, 1)) ic_0) ?_
  refine ai (e_istore (pc := 59) rfl (by decide +kernel : decode k_P_Reckoning_chosenClass.2.1 59 = .ok (.istore 6, 2)) (by decide) rfl (ls2 := [(6, .int 0), (5, .int (-1)), (0, .ref 28), (1, va_rf x1), (4, va_rf x4)]) (i := 6)) ?_
  refine ai (r_iconst (pc := 61) (by decide +kernel : decode k_P_Reckoning_chosenClass.2.1 61 = .ok (.iconst 0, 1)) ic_0) ?_
  refine ai (e_istore (pc := 62) rfl (by decide +kernel : decode k_P_Reckoning_chosenClass.2.1 62 = .ok (.istore 7, 2)) (by decide) rfl (ls2 := [(7, .int 0), (6, .int 0), (5, .int (-1)), (0, .ref 28), (1, va_rf x1), (4, va_rf x4)]) (i := 7)) ?_
  refine ai (r_iconst (pc := 64) (by decide +kernel : decode k_P_Reckoning_chosenClass.2.1 64 = .ok (.iconst 0, 1)) ic_0) ?_
  refine ai (e_istore (pc := 65) rfl (by decide +kernel : decode k_P_Reckoning_chosenClass.2.1 65 = .ok (.istore 8, 2)) (by decide) rfl (ls2 := [(8, .int 0), (7, .int 0), (6, .int 0), (5, .int (-1)), (0, .ref 28), (1, va_rf x1), (4, va_rf x4)]) (i := 8)) ?_
  exact (ai (r_sub [4, 5, 6, 3, 2, 1, 0] rfl) (P_Reckoning_chosenClass_67_run hL h))
