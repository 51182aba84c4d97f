/-! written by gen/emit.py -/
set_option maxRecDepth 100000 in
set_option maxHeartbeats 4000000 in
theorem P_Formula_init_run {a0 : Nat} {m m' : Mem} {r : Unit} (ht : mT m a0 = 2) (h : P_Formula_init a0 m = some (r, m')) : Run k_P_Formula_init 0 [(0, .ref a0)] [] m none m' := by
  unfold P_Formula_init at h
  refine (p_aload_n (pc := 0) (k := 0) (by decide +kernel : decode k_P_Formula_init.2.1 0 = .ok (.aload_n 0, 1)) rfl rfl) ?_
  refine (r_objI (pc := 1) (by decide +kernel : decode k_P_Formula_init.2.1 1 = .ok (.invokespecial 3, 3)) lo_1_3 lo_inst lo_code (Nat.le_of_ble_eq_true rfl) ⟨by decide, by decide⟩) ?_
  refine (p_aload_n (pc := 4) (k := 0) (by decide +kernel : decode k_P_Formula_init.2.1 4 = .ok (.aload_n 0, 1)) rfl rfl) ?_
  refine (r_sipush (pc := 5) (by decide +kernel : decode k_P_Formula_init.2.1 5 = .ok (.sipush (500), 3)) (by decide : _ = (500 : Int32))) ?_
  obtain ⟨g1, h⟩ := gd_some h
  obtain ⟨m2, hm2, h⟩ := vb_some h
  refine (p_newI (pc := 8) hm2 (by decide +kernel : decode k_P_Formula_init.2.1 8 = .ok (.newarray .int, 2)) lw_arr_int g1) ?_
  have t4 : mT m2 (mC m) = 32 := by rw [hm2]; exact up1_eq
  obtain ⟨t5, h⟩ := gt_some h
  obtain ⟨m6, hm6, h⟩ := vb_some h
  have t7 : mT m6 (mC m) = 32 := by rw [hm6]; exact t4
  have t8 : mT m6 a0 = 2 := by rw [hm6]; exact t5
  refine (p_putr (pc := 10) hm6 (by decide +kernel : decode k_P_Formula_init.2.1 10 = .ok (.putfield 9, 3)) lp_1_9 t5) ?_
  refine (p_aload_n (pc := 13) (k := 0) (by decide +kernel : decode k_P_Formula_init.2.1 13 = .ok (.aload_n 0, 1)) rfl rfl) ?_
  refine (r_sipush (pc := 14) (by decide +kernel : decode k_P_Formula_init.2.1 14 = .ok (.sipush (500), 3)) (by decide : _ = (500 : Int32))) ?_
  obtain ⟨g9, h⟩ := gd_some h
  obtain ⟨m10, hm10, h⟩ := vb_some h
  refine (p_newI (pc := 17) hm10 (by decide +kernel : decode k_P_Formula_init.2.1 17 = .ok (.newarray .int, 2)) lw_arr_int g9) ?_
  have t13 : mT m10 (mC m6) = 32 := by rw [hm10]; exact up1_eq
  obtain ⟨t14, h⟩ := gt_some h
  obtain ⟨m15, hm15, h⟩ := vb_some h
  have t16 : mT m15 (mC m6) = 32 := by rw [hm15]; exact t13
  have t17 : mT m15 a0 = 2 := by rw [hm15]; exact t14
  refine (p_putr (pc := 19) hm15 (by decide +kernel : decode k_P_Formula_init.2.1 19 = .ok (.putfield 15, 3)) lp_1_15 t14) ?_
  refine (p_aload_n (pc := 22) (k := 0) (by decide +kernel : decode k_P_Formula_init.2.1 22 = .ok (.aload_n 0, 1)) rfl rfl) ?_
  refine (r_bipush (pc := 23) (by decide +kernel : decode k_P_Formula_init.2.1 23 = .ok (.bipush (64), 2)) (by decide : _ = (64 : Int32))) ?_
  obtain ⟨g18, h⟩ := gd_some h
  obtain ⟨m19, hm19, h⟩ := vb_some h
  refine (p_newI (pc := 25) hm19 (by decide +kernel : decode k_P_Formula_init.2.1 25 = .ok (.newarray .int, 2)) lw_arr_int g18) ?_
  have t22 : mT m19 (mC m15) = 32 := by rw [hm19]; exact up1_eq
  obtain ⟨t23, h⟩ := gt_some h
  obtain ⟨m24, hm24, h⟩ := vb_some h
  have t25 : mT m24 (mC m15) = 32 := by rw [hm24]; exact t22
  have t26 : mT m24 a0 = 2 := by rw [hm24]; exact t23
  refine (p_putr (pc := 27) hm24 (by decide +kernel : decode k_P_Formula_init.2.1 27 = .ok (.putfield 18, 3)) lp_1_18 t23) ?_
  cases h
  exact r_vret rfl (by decide +kernel : decode k_P_Formula_init.2.1 30 = .ok (.return_, 1))
set_option maxRecDepth 100000 in
set_option maxHeartbeats 4000000 in
theorem P_Land_init_run {a0 : Nat} {m m' : Mem} {r : Unit} (ht : mT m a0 = 4) (h : P_Land_init a0 m = some (r, m')) : Run k_P_Land_init 0 [(0, .ref a0)] [] m none m' := by
  unfold P_Land_init at h
  refine (p_aload_n (pc := 0) (k := 0) (by decide +kernel : decode k_P_Land_init.2.1 0 = .ok (.aload_n 0, 1)) rfl rfl) ?_
  refine (r_objI (pc := 1) (by decide +kernel : decode k_P_Land_init.2.1 1 = .ok (.invokespecial 3, 3)) lo_3_3 lo_inst lo_code (Nat.le_of_ble_eq_true rfl) ⟨by decide, by decide⟩) ?_
  refine (p_aload_n (pc := 4) (k := 0) (by decide +kernel : decode k_P_Land_init.2.1 4 = .ok (.aload_n 0, 1)) rfl rfl) ?_
  refine (r_bipush (pc := 5) (by decide +kernel : decode k_P_Land_init.2.1 5 = .ok (.bipush (8), 2)) (by decide : _ = (8 : Int32))) ?_
  obtain ⟨g1, h⟩ := gd_some h
  obtain ⟨m2, hm2, h⟩ := vb_some h
  refine (p_newI (pc := 7) hm2 (by decide +kernel : decode k_P_Land_init.2.1 7 = .ok (.newarray .int, 2)) lw_arr_int g1) ?_
  have t4 : mT m2 (mC m) = 32 := by rw [hm2]; exact up1_eq
  obtain ⟨t5, h⟩ := gt_some h
  obtain ⟨m6, hm6, h⟩ := vb_some h
  have t7 : mT m6 (mC m) = 32 := by rw [hm6]; exact t4
  have t8 : mT m6 a0 = 4 := by rw [hm6]; exact t5
  refine (p_putr (pc := 9) hm6 (by decide +kernel : decode k_P_Land_init.2.1 9 = .ok (.putfield 9, 3)) lp_3_9 t5) ?_
  refine (p_aload_n (pc := 12) (k := 0) (by decide +kernel : decode k_P_Land_init.2.1 12 = .ok (.aload_n 0, 1)) rfl rfl) ?_
  refine (r_bipush (pc := 13) (by decide +kernel : decode k_P_Land_init.2.1 13 = .ok (.bipush (8), 2)) (by decide : _ = (8 : Int32))) ?_
  obtain ⟨g9, h⟩ := gd_some h
  obtain ⟨m10, hm10, h⟩ := vb_some h
  refine (p_newI (pc := 15) hm10 (by decide +kernel : decode k_P_Land_init.2.1 15 = .ok (.newarray .int, 2)) lw_arr_int g9) ?_
  have t13 : mT m10 (mC m6) = 32 := by rw [hm10]; exact up1_eq
  obtain ⟨t14, h⟩ := gt_some h
  obtain ⟨m15, hm15, h⟩ := vb_some h
  have t16 : mT m15 (mC m6) = 32 := by rw [hm15]; exact t13
  have t17 : mT m15 a0 = 4 := by rw [hm15]; exact t14
  refine (p_putr (pc := 17) hm15 (by decide +kernel : decode k_P_Land_init.2.1 17 = .ok (.putfield 15, 3)) lp_3_15 t14) ?_
  refine (p_aload_n (pc := 20) (k := 0) (by decide +kernel : decode k_P_Land_init.2.1 20 = .ok (.aload_n 0, 1)) rfl rfl) ?_
  refine (r_bipush (pc := 21) (by decide +kernel : decode k_P_Land_init.2.1 21 = .ok (.bipush (10), 2)) (by decide : _ = (10 : Int32))) ?_
  obtain ⟨g18, h⟩ := gd_some h
  obtain ⟨m19, hm19, h⟩ := vb_some h
  refine (p_newI (pc := 23) hm19 (by decide +kernel : decode k_P_Land_init.2.1 23 = .ok (.newarray .int, 2)) lw_arr_int g18) ?_
  have t22 : mT m19 (mC m15) = 32 := by rw [hm19]; exact up1_eq
  obtain ⟨t23, h⟩ := gt_some h
  obtain ⟨m24, hm24, h⟩ := vb_some h
  have t25 : mT m24 (mC m15) = 32 := by rw [hm24]; exact t22
  have t26 : mT m24 a0 = 4 := by rw [hm24]; exact t23
  refine (p_putr (pc := 25) hm24 (by decide +kernel : decode k_P_Land_init.2.1 25 = .ok (.putfield 18, 3)) lp_3_18 t23) ?_
  refine (p_aload_n (pc := 28) (k := 0) (by decide +kernel : decode k_P_Land_init.2.1 28 = .ok (.aload_n 0, 1)) rfl rfl) ?_
  refine (r_bipush (pc := 29) (by decide +kernel : decode k_P_Land_init.2.1 29 = .ok (.bipush (10), 2)) (by decide : _ = (10 : Int32))) ?_
  obtain ⟨g27, h⟩ := gd_some h
  obtain ⟨m28, hm28, h⟩ := vb_some h
  refine (p_newI (pc := 31) hm28 (by decide +kernel : decode k_P_Land_init.2.1 31 = .ok (.newarray .int, 2)) lw_arr_int g27) ?_
  have t31 : mT m28 (mC m24) = 32 := by rw [hm28]; exact up1_eq
  obtain ⟨t32, h⟩ := gt_some h
  obtain ⟨m33, hm33, h⟩ := vb_some h
  have t34 : mT m33 (mC m24) = 32 := by rw [hm33]; exact t31
  have t35 : mT m33 a0 = 4 := by rw [hm33]; exact t32
  refine (p_putr (pc := 33) hm33 (by decide +kernel : decode k_P_Land_init.2.1 33 = .ok (.putfield 21, 3)) lp_3_21 t32) ?_
  refine (p_aload_n (pc := 36) (k := 0) (by decide +kernel : decode k_P_Land_init.2.1 36 = .ok (.aload_n 0, 1)) rfl rfl) ?_
  refine (r_bipush (pc := 37) (by decide +kernel : decode k_P_Land_init.2.1 37 = .ok (.bipush (10), 2)) (by decide : _ = (10 : Int32))) ?_
  obtain ⟨g36, h⟩ := gd_some h
  obtain ⟨m37, hm37, h⟩ := vb_some h
  refine (p_newI (pc := 39) hm37 (by decide +kernel : decode k_P_Land_init.2.1 39 = .ok (.newarray .int, 2)) lw_arr_int g36) ?_
  have t40 : mT m37 (mC m33) = 32 := by rw [hm37]; exact up1_eq
  obtain ⟨t41, h⟩ := gt_some h
  obtain ⟨m42, hm42, h⟩ := vb_some h
  have t43 : mT m42 (mC m33) = 32 := by rw [hm42]; exact t40
  have t44 : mT m42 a0 = 4 := by rw [hm42]; exact t41
  refine (p_putr (pc := 41) hm42 (by decide +kernel : decode k_P_Land_init.2.1 41 = .ok (.putfield 24, 3)) lp_3_24 t41) ?_
  refine (p_aload_n (pc := 44) (k := 0) (by decide +kernel : decode k_P_Land_init.2.1 44 = .ok (.aload_n 0, 1)) rfl rfl) ?_
  refine (r_bipush (pc := 45) (by decide +kernel : decode k_P_Land_init.2.1 45 = .ok (.bipush (16), 2)) (by decide : _ = (16 : Int32))) ?_
  obtain ⟨g45, h⟩ := gd_some h
  obtain ⟨m46, hm46, h⟩ := vb_some h
  refine (p_newI (pc := 47) hm46 (by decide +kernel : decode k_P_Land_init.2.1 47 = .ok (.newarray .int, 2)) lw_arr_int g45) ?_
  have t49 : mT m46 (mC m42) = 32 := by rw [hm46]; exact up1_eq
  obtain ⟨t50, h⟩ := gt_some h
  obtain ⟨m51, hm51, h⟩ := vb_some h
  have t52 : mT m51 (mC m42) = 32 := by rw [hm51]; exact t49
  have t53 : mT m51 a0 = 4 := by rw [hm51]; exact t50
  refine (p_putr (pc := 49) hm51 (by decide +kernel : decode k_P_Land_init.2.1 49 = .ok (.putfield 27, 3)) lp_3_27 t50) ?_
  refine (p_aload_n (pc := 52) (k := 0) (by decide +kernel : decode k_P_Land_init.2.1 52 = .ok (.aload_n 0, 1)) rfl rfl) ?_
  refine (r_iconst (pc := 53) (by decide +kernel : decode k_P_Land_init.2.1 53 = .ok (.iconst 4, 1)) ic_4) ?_
  obtain ⟨g54, h⟩ := gd_some h
  obtain ⟨m55, hm55, h⟩ := vb_some h
  refine (p_newI (pc := 54) hm55 (by decide +kernel : decode k_P_Land_init.2.1 54 = .ok (.newarray .int, 2)) lw_arr_int g54) ?_
  have t58 : mT m55 (mC m51) = 32 := by rw [hm55]; exact up1_eq
  obtain ⟨t59, h⟩ := gt_some h
  obtain ⟨m60, hm60, h⟩ := vb_some h
  have t61 : mT m60 (mC m51) = 32 := by rw [hm60]; exact t58
  have t62 : mT m60 a0 = 4 := by rw [hm60]; exact t59
  refine (p_putr (pc := 56) hm60 (by decide +kernel : decode k_P_Land_init.2.1 56 = .ok (.putfield 30, 3)) lp_3_30 t59) ?_
  refine (p_aload_n (pc := 59) (k := 0) (by decide +kernel : decode k_P_Land_init.2.1 59 = .ok (.aload_n 0, 1)) rfl rfl) ?_
  refine (p_getR (pc := 60) (by decide +kernel : decode k_P_Land_init.2.1 60 = .ok (.getfield 30, 3)) lg_3_30 t62) ?_
  refine (r_iconst (pc := 63) (by decide +kernel : decode k_P_Land_init.2.1 63 = .ok (.iconst 1, 1)) ic_1) ?_
  obtain ⟨r63, m64, hr63, h⟩ := bn_some h
  have q65 := J_fill_run hr63
  refine (q_callS (pc := 64) (As := [va_rf (mR m60 393 a0), .int 1]) (st := []) (st2 := []) (by simp [lv_args, vrc, vrs, cti, ctr, ctl, ctn, cta]) rfl (by decide +kernel : decode k_P_Land_init.2.1 64 = .ok (.invokestatic 33, 3)) lc_3_33 mo_J_fill ⟨Nat.le_of_ble_eq_true rfl, Nat.le_of_ble_eq_true rfl⟩ (by simp [lg_sl, vrc, vrs, cti, ctr, ctl, ctn, cta, k_J_fill]) (Nat.le_of_ble_eq_true rfl) q65.1) ?_
  have t66 : mT m64 (mC m51) = 32 := by rw [q65.2.1]; exact t61
  have t67 : mT m64 a0 = 4 := by rw [q65.2.1]; exact t62
  cases h
  exact r_vret rfl (by decide +kernel : decode k_P_Land_init.2.1 67 = .ok (.return_, 1))
set_option maxRecDepth 100000 in
set_option maxHeartbeats 4000000 in
theorem P_Ledger_init_run {a0 : Nat} {m m' : Mem} {r : Unit} (ht : mT m a0 = 5) (h : P_Ledger_init a0 m = some (r, m')) : Run k_P_Ledger_init 0 [(0, .ref a0)] [] m none m' := by
  unfold P_Ledger_init at h
  refine (p_aload_n (pc := 0) (k := 0) (by decide +kernel : decode k_P_Ledger_init.2.1 0 = .ok (.aload_n 0, 1)) rfl rfl) ?_
  refine (r_objI (pc := 1) (by decide +kernel : decode k_P_Ledger_init.2.1 1 = .ok (.invokespecial 3, 3)) lo_4_3 lo_inst lo_code (Nat.le_of_ble_eq_true rfl) ⟨by decide, by decide⟩) ?_
  refine (p_aload_n (pc := 4) (k := 0) (by decide +kernel : decode k_P_Ledger_init.2.1 4 = .ok (.aload_n 0, 1)) rfl rfl) ?_
  refine (r_sipush (pc := 5) (by decide +kernel : decode k_P_Ledger_init.2.1 5 = .ok (.sipush (160), 3)) (by decide : _ = (160 : Int32))) ?_
  obtain ⟨g1, h⟩ := gd_some h
  obtain ⟨m2, hm2, h⟩ := vb_some h
  refine (p_newR (pc := 8) (j := 2) hm2 (by decide) (by decide +kernel : decode k_P_Ledger_init.2.1 8 = .ok (.anewarray 9, 3)) la_4_9 g1) ?_
  have t4 : mT m2 (mC m) = 38 := by rw [hm2]; exact up1_eq
  obtain ⟨t5, h⟩ := gt_some h
  obtain ⟨m6, hm6, h⟩ := vb_some h
  have t7 : mT m6 (mC m) = 38 := by rw [hm6]; exact t4
  have t8 : mT m6 a0 = 5 := by rw [hm6]; exact t5
  refine (p_putr (pc := 11) hm6 (by decide +kernel : decode k_P_Ledger_init.2.1 11 = .ok (.putfield 11, 3)) lp_4_11 t5) ?_
  refine (p_aload_n (pc := 14) (k := 0) (by decide +kernel : decode k_P_Ledger_init.2.1 14 = .ok (.aload_n 0, 1)) rfl rfl) ?_
  refine (r_bipush (pc := 15) (by decide +kernel : decode k_P_Ledger_init.2.1 15 = .ok (.bipush (24), 2)) (by decide : _ = (24 : Int32))) ?_
  obtain ⟨g9, h⟩ := gd_some h
  obtain ⟨m10, hm10, h⟩ := vb_some h
  refine (p_newR (pc := 17) (j := 1) hm10 (by decide) (by decide +kernel : decode k_P_Ledger_init.2.1 17 = .ok (.anewarray 17, 3)) la_4_17 g9) ?_
  have t13 : mT m10 (mC m6) = 37 := by rw [hm10]; exact up1_eq
  obtain ⟨t14, h⟩ := gt_some h
  obtain ⟨m15, hm15, h⟩ := vb_some h
  have t16 : mT m15 (mC m6) = 37 := by rw [hm15]; exact t13
  have t17 : mT m15 a0 = 5 := by rw [hm15]; exact t14
  refine (p_putr (pc := 20) hm15 (by decide +kernel : decode k_P_Ledger_init.2.1 20 = .ok (.putfield 19, 3)) lp_4_19 t14) ?_
  cases h
  exact r_vret rfl (by decide +kernel : decode k_P_Ledger_init.2.1 23 = .ok (.return_, 1))
set_option maxRecDepth 100000 in
set_option maxHeartbeats 4000000 in
theorem P_Lexer_init_run {a0 : Nat} {m m' : Mem} {r : Unit} (ht : mT m a0 = 6) (h : P_Lexer_init a0 m = some (r, m')) : Run k_P_Lexer_init 0 [(0, .ref a0)] [] m none m' := by
  unfold P_Lexer_init at h
  refine (p_aload_n (pc := 0) (k := 0) (by decide +kernel : decode k_P_Lexer_init.2.1 0 = .ok (.aload_n 0, 1)) rfl rfl) ?_
  refine (r_objI (pc := 1) (by decide +kernel : decode k_P_Lexer_init.2.1 1 = .ok (.invokespecial 3, 3)) lo_5_3 lo_inst lo_code (Nat.le_of_ble_eq_true rfl) ⟨by decide, by decide⟩) ?_
  refine (p_aload_n (pc := 4) (k := 0) (by decide +kernel : decode k_P_Lexer_init.2.1 4 = .ok (.aload_n 0, 1)) rfl rfl) ?_
  refine (r_sipush (pc := 5) (by decide +kernel : decode k_P_Lexer_init.2.1 5 = .ok (.sipush (2000), 3)) (by decide : _ = (2000 : Int32))) ?_
  obtain ⟨g1, h⟩ := gd_some h
  obtain ⟨m2, hm2, h⟩ := vb_some h
  refine (p_newI (pc := 8) hm2 (by decide +kernel : decode k_P_Lexer_init.2.1 8 = .ok (.newarray .int, 2)) lw_arr_int g1) ?_
  have t4 : mT m2 (mC m) = 32 := by rw [hm2]; exact up1_eq
  obtain ⟨t5, h⟩ := gt_some h
  obtain ⟨m6, hm6, h⟩ := vb_some h
  have t7 : mT m6 (mC m) = 32 := by rw [hm6]; exact t4
  have t8 : mT m6 a0 = 6 := by rw [hm6]; exact t5
  refine (p_putr (pc := 10) hm6 (by decide +kernel : decode k_P_Lexer_init.2.1 10 = .ok (.putfield 9, 3)) lp_5_9 t5) ?_
  refine (p_aload_n (pc := 13) (k := 0) (by decide +kernel : decode k_P_Lexer_init.2.1 13 = .ok (.aload_n 0, 1)) rfl rfl) ?_
  refine (r_sipush (pc := 14) (by decide +kernel : decode k_P_Lexer_init.2.1 14 = .ok (.sipush (501), 3)) (by decide : _ = (501 : Int32))) ?_
  obtain ⟨g9, h⟩ := gd_some h
  obtain ⟨m10, hm10, h⟩ := vb_some h
  refine (p_newI (pc := 17) hm10 (by decide +kernel : decode k_P_Lexer_init.2.1 17 = .ok (.newarray .int, 2)) lw_arr_int g9) ?_
  have t13 : mT m10 (mC m6) = 32 := by rw [hm10]; exact up1_eq
  obtain ⟨t14, h⟩ := gt_some h
  obtain ⟨m15, hm15, h⟩ := vb_some h
  have t16 : mT m15 (mC m6) = 32 := by rw [hm15]; exact t13
  have t17 : mT m15 a0 = 6 := by rw [hm15]; exact t14
  refine (p_putr (pc := 19) hm15 (by decide +kernel : decode k_P_Lexer_init.2.1 19 = .ok (.putfield 15, 3)) lp_5_15 t14) ?_
  refine (p_aload_n (pc := 22) (k := 0) (by decide +kernel : decode k_P_Lexer_init.2.1 22 = .ok (.aload_n 0, 1)) rfl rfl) ?_
  refine (r_sipush (pc := 23) (by decide +kernel : decode k_P_Lexer_init.2.1 23 = .ok (.sipush (501), 3)) (by decide : _ = (501 : Int32))) ?_
  obtain ⟨g18, h⟩ := gd_some h
  obtain ⟨m19, hm19, h⟩ := vb_some h
  refine (p_newI (pc := 26) hm19 (by decide +kernel : decode k_P_Lexer_init.2.1 26 = .ok (.newarray .int, 2)) lw_arr_int g18) ?_
  have t22 : mT m19 (mC m15) = 32 := by rw [hm19]; exact up1_eq
  obtain ⟨t23, h⟩ := gt_some h
  obtain ⟨m24, hm24, h⟩ := vb_some h
  have t25 : mT m24 (mC m15) = 32 := by rw [hm24]; exact t22
  have t26 : mT m24 a0 = 6 := by rw [hm24]; exact t23
  refine (p_putr (pc := 28) hm24 (by decide +kernel : decode k_P_Lexer_init.2.1 28 = .ok (.putfield 18, 3)) lp_5_18 t23) ?_
  refine (p_aload_n (pc := 31) (k := 0) (by decide +kernel : decode k_P_Lexer_init.2.1 31 = .ok (.aload_n 0, 1)) rfl rfl) ?_
  refine (r_sipush (pc := 32) (by decide +kernel : decode k_P_Lexer_init.2.1 32 = .ok (.sipush (501), 3)) (by decide : _ = (501 : Int32))) ?_
  obtain ⟨g27, h⟩ := gd_some h
  obtain ⟨m28, hm28, h⟩ := vb_some h
  refine (p_newL (pc := 35) hm28 (by decide +kernel : decode k_P_Lexer_init.2.1 35 = .ok (.newarray .long, 2)) lw_arr_long g27) ?_
  have t31 : mT m28 (mC m24) = 35 := by rw [hm28]; exact up1_eq
  obtain ⟨t32, h⟩ := gt_some h
  obtain ⟨m33, hm33, h⟩ := vb_some h
  have t34 : mT m33 (mC m24) = 35 := by rw [hm33]; exact t31
  have t35 : mT m33 a0 = 6 := by rw [hm33]; exact t32
  refine (p_putr (pc := 37) hm33 (by decide +kernel : decode k_P_Lexer_init.2.1 37 = .ok (.putfield 21, 3)) lp_5_21 t32) ?_
  refine (p_aload_n (pc := 40) (k := 0) (by decide +kernel : decode k_P_Lexer_init.2.1 40 = .ok (.aload_n 0, 1)) rfl rfl) ?_
  refine (r_bipush (pc := 41) (by decide +kernel : decode k_P_Lexer_init.2.1 41 = .ok (.bipush (40), 2)) (by decide : _ = (40 : Int32))) ?_
  obtain ⟨g36, h⟩ := gd_some h
  obtain ⟨m37, hm37, h⟩ := vb_some h
  refine (p_newL (pc := 43) hm37 (by decide +kernel : decode k_P_Lexer_init.2.1 43 = .ok (.newarray .long, 2)) lw_arr_long g36) ?_
  have t40 : mT m37 (mC m33) = 35 := by rw [hm37]; exact up1_eq
  obtain ⟨t41, h⟩ := gt_some h
  obtain ⟨m42, hm42, h⟩ := vb_some h
  have t43 : mT m42 (mC m33) = 35 := by rw [hm42]; exact t40
  have t44 : mT m42 a0 = 6 := by rw [hm42]; exact t41
  refine (p_putr (pc := 45) hm42 (by decide +kernel : decode k_P_Lexer_init.2.1 45 = .ok (.putfield 25, 3)) lp_5_25 t41) ?_
  refine (p_aload_n (pc := 48) (k := 0) (by decide +kernel : decode k_P_Lexer_init.2.1 48 = .ok (.aload_n 0, 1)) rfl rfl) ?_
  refine (r_ldcS (pc := 49) (j := 0) (by decide +kernel : decode k_P_Lexer_init.2.1 49 = .ok (.ldc 28, 2)) rfl) ?_
  refine (r_iconst (pc := 51) (by decide +kernel : decode k_P_Lexer_init.2.1 51 = .ok (.iconst 0, 1)) ic_0) ?_
  obtain ⟨r45, m46, hr45, h⟩ := bn_some h
  have q47 := P_Lexer_learn_run t44 hr45
  refine (q_callV (pc := 52) (As := [.retAddr 0, .int 0]) (st := []) (st2 := [.int r45]) (b := a0) rfl rfl (by decide +kernel : decode k_P_Lexer_init.2.1 52 = .ok (.invokevirtual 30, 3)) lc_5_30 mo_P_Lexer_learn ⟨Nat.le_of_ble_eq_true rfl, Nat.le_of_ble_eq_true rfl⟩ (Nat.le_of_ble_eq_true rfl) (Nat.le_of_ble_eq_true rfl) t44 q47) ?_
  refine (e_istore_n (pc := 55) rfl (by decide +kernel : decode k_P_Lexer_init.2.1 55 = .ok (.istore_n 1, 1)) rfl (by decide) rfl (ls2 := [(1, .int r45), (0, .ref a0)]) (i := 1)) ?_
  refine (p_aload_n (pc := 56) (k := 1) (by decide +kernel : decode k_P_Lexer_init.2.1 56 = .ok (.aload_n 0, 1)) rfl rfl) ?_
  refine (r_ldcS (pc := 57) (j := 1) (by decide +kernel : decode k_P_Lexer_init.2.1 57 = .ok (.ldc 34, 2)) rfl) ?_
  refine (r_iload_n (pc := 59) (k := 0) (by decide +kernel : decode k_P_Lexer_init.2.1 59 = .ok (.iload_n 1, 1)) rfl rfl) ?_
  obtain ⟨t48, h⟩ := gt_some h
  obtain ⟨r49, m50, hr49, h⟩ := bn_some h
  have q51 := P_Lexer_learn_run t48 hr49
  refine (q_callV (pc := 60) (As := [.retAddr 1, .int r45]) (st := []) (st2 := [.int r49]) (b := a0) rfl rfl (by decide +kernel : decode k_P_Lexer_init.2.1 60 = .ok (.invokevirtual 30, 3)) lc_5_30 mo_P_Lexer_learn ⟨Nat.le_of_ble_eq_true rfl, Nat.le_of_ble_eq_true rfl⟩ (Nat.le_of_ble_eq_true rfl) (Nat.le_of_ble_eq_true rfl) t48 q51) ?_
  refine (e_istore_n (pc := 63) rfl (by decide +kernel : decode k_P_Lexer_init.2.1 63 = .ok (.istore_n 1, 1)) rfl (by decide) rfl (ls2 := [(1, .int r49), (0, .ref a0)]) (i := 1)) ?_
  refine (p_aload_n (pc := 64) (k := 1) (by decide +kernel : decode k_P_Lexer_init.2.1 64 = .ok (.aload_n 0, 1)) rfl rfl) ?_
  refine (r_ldcS (pc := 65) (j := 2) (by decide +kernel : decode k_P_Lexer_init.2.1 65 = .ok (.ldc 36, 2)) rfl) ?_
  refine (r_iload_n (pc := 67) (k := 0) (by decide +kernel : decode k_P_Lexer_init.2.1 67 = .ok (.iload_n 1, 1)) rfl rfl) ?_
  obtain ⟨t52, h⟩ := gt_some h
  obtain ⟨r53, m54, hr53, h⟩ := bn_some h
  have q55 := P_Lexer_learn_run t52 hr53
  refine (q_callV (pc := 68) (As := [.retAddr 2, .int r49]) (st := []) (st2 := [.int r53]) (b := a0) rfl rfl (by decide +kernel : decode k_P_Lexer_init.2.1 68 = .ok (.invokevirtual 30, 3)) lc_5_30 mo_P_Lexer_learn ⟨Nat.le_of_ble_eq_true rfl, Nat.le_of_ble_eq_true rfl⟩ (Nat.le_of_ble_eq_true rfl) (Nat.le_of_ble_eq_true rfl) t52 q55) ?_
  refine (e_istore_n (pc := 71) rfl (by decide +kernel : decode k_P_Lexer_init.2.1 71 = .ok (.istore_n 1, 1)) rfl (by decide) rfl (ls2 := [(1, .int r53), (0, .ref a0)]) (i := 1)) ?_
  refine (p_aload_n (pc := 72) (k := 1) (by decide +kernel : decode k_P_Lexer_init.2.1 72 = .ok (.aload_n 0, 1)) rfl rfl) ?_
  refine (r_ldcS (pc := 73) (j := 3) (by decide +kernel : decode k_P_Lexer_init.2.1 73 = .ok (.ldc 38, 2)) rfl) ?_
  refine (r_iload_n (pc := 75) (k := 0) (by decide +kernel : decode k_P_Lexer_init.2.1 75 = .ok (.iload_n 1, 1)) rfl rfl) ?_
  obtain ⟨t56, h⟩ := gt_some h
  obtain ⟨r57, m58, hr57, h⟩ := bn_some h
  have q59 := P_Lexer_learn_run t56 hr57
  refine (q_callV (pc := 76) (As := [.retAddr 3, .int r53]) (st := []) (st2 := [.int r57]) (b := a0) rfl rfl (by decide +kernel : decode k_P_Lexer_init.2.1 76 = .ok (.invokevirtual 30, 3)) lc_5_30 mo_P_Lexer_learn ⟨Nat.le_of_ble_eq_true rfl, Nat.le_of_ble_eq_true rfl⟩ (Nat.le_of_ble_eq_true rfl) (Nat.le_of_ble_eq_true rfl) t56 q59) ?_
  refine (r_pop (pc := 79) (by decide +kernel : decode k_P_Lexer_init.2.1 79 = .ok (.pop, 1)) (rfl)) ?_
  cases h
  exact r_vret rfl (by decide +kernel : decode k_P_Lexer_init.2.1 80 = .ok (.return_, 1))
set_option maxRecDepth 100000 in
set_option maxHeartbeats 4000000 in
theorem P_Parser_init_run {a0 : Nat} {x1 : Option Nat} {x2 : Option Nat} {x3 : Option Nat} {m m' : Mem} {r : Unit} (ht : mT m a0 = 7) (h : P_Parser_init a0 x1 x2 x3 m = some (r, m')) : Run k_P_Parser_init 0 [(0, .ref a0), (1, va_rf x1), (2, va_rf x2), (3, va_rf x3)] [] m none m' := by
  unfold P_Parser_init at h
  refine (p_aload_n (pc := 0) (k := 0) (by decide +kernel : decode k_P_Parser_init.2.1 0 = .ok (.aload_n 0, 1)) rfl rfl) ?_
  refine (r_objI (pc := 1) (by decide +kernel : decode k_P_Parser_init.2.1 1 = .ok (.invokespecial 3, 3)) lo_6_3 lo_inst lo_code (Nat.le_of_ble_eq_true rfl) ⟨by decide, by decide⟩) ?_
  refine (p_aload_n (pc := 4) (k := 0) (by decide +kernel : decode k_P_Parser_init.2.1 4 = .ok (.aload_n 0, 1)) rfl rfl) ?_
  refine (r_bipush (pc := 5) (by decide +kernel : decode k_P_Parser_init.2.1 5 = .ok (.bipush (60), 2)) (by decide : _ = (60 : Int32))) ?_
  obtain ⟨g1, h⟩ := gd_some h
  obtain ⟨m2, hm2, h⟩ := vb_some h
  refine (p_newL (pc := 7) hm2 (by decide +kernel : decode k_P_Parser_init.2.1 7 = .ok (.newarray .long, 2)) lw_arr_long g1) ?_
  have t4 : mT m2 (mC m) = 35 := by rw [hm2]; exact up1_eq
  obtain ⟨t5, h⟩ := gt_some h
  obtain ⟨m6, hm6, h⟩ := vb_some h
  have t7 : mT m6 (mC m) = 35 := by rw [hm6]; exact t4
  have t8 : mT m6 a0 = 7 := by rw [hm6]; exact t5
  refine (p_putr (pc := 9) hm6 (by decide +kernel : decode k_P_Parser_init.2.1 9 = .ok (.putfield 9, 3)) lp_6_9 t5) ?_
  refine (p_aload_n (pc := 12) (k := 0) (by decide +kernel : decode k_P_Parser_init.2.1 12 = .ok (.aload_n 0, 1)) rfl rfl) ?_
  refine (r_iconst (pc := 13) (by decide +kernel : decode k_P_Parser_init.2.1 13 = .ok (.iconst (-1), 1)) ic_m1) ?_
  obtain ⟨m9, hm9, h⟩ := vb_some h
  have t10 : mT m9 (mC m) = 35 := by rw [hm9]; exact t7
  have t11 : mT m9 a0 = 7 := by rw [hm9]; exact t8
  refine (p_putI (pc := 14) hm9 (by decide +kernel : decode k_P_Parser_init.2.1 14 = .ok (.putfield 15, 3)) lp_6_15 t8) ?_
  refine (p_aload_n (pc := 17) (k := 0) (by decide +kernel : decode k_P_Parser_init.2.1 17 = .ok (.aload_n 0, 1)) rfl rfl) ?_
  refine (r_bipush (pc := 18) (by decide +kernel : decode k_P_Parser_init.2.1 18 = .ok (.bipush (30), 2)) (by decide : _ = (30 : Int32))) ?_
  obtain ⟨g12, h⟩ := gd_some h
  obtain ⟨m13, hm13, h⟩ := vb_some h
  refine (p_newR (pc := 20) (j := 0) hm13 (by decide) (by decide +kernel : decode k_P_Parser_init.2.1 20 = .ok (.anewarray 19, 3)) la_6_19 g12) ?_
  have t16 : mT m13 (mC m9) = 36 := by rw [hm13]; exact up1_eq
  obtain ⟨t17, h⟩ := gt_some h
  obtain ⟨m18, hm18, h⟩ := vb_some h
  have t19 : mT m18 (mC m9) = 36 := by rw [hm18]; exact t16
  have t20 : mT m18 a0 = 7 := by rw [hm18]; exact t17
  refine (p_putr (pc := 23) hm18 (by decide +kernel : decode k_P_Parser_init.2.1 23 = .ok (.putfield 21, 3)) lp_6_21 t17) ?_
  refine (p_aload_n (pc := 26) (k := 0) (by decide +kernel : decode k_P_Parser_init.2.1 26 = .ok (.aload_n 0, 1)) rfl rfl) ?_
  refine (r_aload_n (pc := 27) (k := 1) (by decide +kernel : decode k_P_Parser_init.2.1 27 = .ok (.aload_n 1, 1)) rfl rfl) ?_
  obtain ⟨m21, hm21, h⟩ := vb_some h
  have t22 : mT m21 (mC m9) = 36 := by rw [hm21]; exact t19
  have t23 : mT m21 a0 = 7 := by rw [hm21]; exact t20
  refine (p_putR (pc := 28) hm21 (by decide +kernel : decode k_P_Parser_init.2.1 28 = .ok (.putfield 25, 3)) lp_6_25 t20) ?_
  refine (p_aload_n (pc := 31) (k := 0) (by decide +kernel : decode k_P_Parser_init.2.1 31 = .ok (.aload_n 0, 1)) rfl rfl) ?_
  refine (r_aload_n (pc := 32) (k := 2) (by decide +kernel : decode k_P_Parser_init.2.1 32 = .ok (.aload_n 2, 1)) rfl rfl) ?_
  obtain ⟨m24, hm24, h⟩ := vb_some h
  have t25 : mT m24 (mC m9) = 36 := by rw [hm24]; exact t22
  have t26 : mT m24 a0 = 7 := by rw [hm24]; exact t23
  refine (p_putR (pc := 33) hm24 (by decide +kernel : decode k_P_Parser_init.2.1 33 = .ok (.putfield 29, 3)) lp_6_29 t23) ?_
  refine (p_aload_n (pc := 36) (k := 0) (by decide +kernel : decode k_P_Parser_init.2.1 36 = .ok (.aload_n 0, 1)) rfl rfl) ?_
  refine (r_aload_n (pc := 37) (k := 3) (by decide +kernel : decode k_P_Parser_init.2.1 37 = .ok (.aload_n 3, 1)) rfl rfl) ?_
  obtain ⟨m27, hm27, h⟩ := vb_some h
  have t28 : mT m27 (mC m9) = 36 := by rw [hm27]; exact t25
  have t29 : mT m27 a0 = 7 := by rw [hm27]; exact t26
  refine (p_putR (pc := 38) hm27 (by decide +kernel : decode k_P_Parser_init.2.1 38 = .ok (.putfield 33, 3)) lp_6_33 t26) ?_
  cases h
  exact r_vret rfl (by decide +kernel : decode k_P_Parser_init.2.1 41 = .ok (.return_, 1))
set_option maxRecDepth 100000 in
set_option maxHeartbeats 4000000 in
theorem P_Scene_init_run {a0 : Nat} {x1 : Option Nat} {x2 : Option Nat} {x3 : Option Nat} {m m' : Mem} {r : Unit} (ht : mT m a0 = 10) (h : P_Scene_init a0 x1 x2 x3 m = some (r, m')) : Run k_P_Scene_init 0 [(0, .ref a0), (1, va_rf x1), (2, va_rf x2), (3, va_rf x3)] [] m none m' := by
  unfold P_Scene_init at h
  refine (p_aload_n (pc := 0) (k := 0) (by decide +kernel : decode k_P_Scene_init.2.1 0 = .ok (.aload_n 0, 1)) rfl rfl) ?_
  refine (r_objI (pc := 1) (by decide +kernel : decode k_P_Scene_init.2.1 1 = .ok (.invokespecial 3, 3)) lo_9_3 lo_inst lo_code (Nat.le_of_ble_eq_true rfl) ⟨by decide, by decide⟩) ?_
  refine (p_aload_n (pc := 4) (k := 0) (by decide +kernel : decode k_P_Scene_init.2.1 4 = .ok (.aload_n 0, 1)) rfl rfl) ?_
  refine (r_bipush (pc := 5) (by decide +kernel : decode k_P_Scene_init.2.1 5 = .ok (.bipush (12), 2)) (by decide : _ = (12 : Int32))) ?_
  obtain ⟨g1, h⟩ := gd_some h
  obtain ⟨m2, hm2, h⟩ := vb_some h
  refine (p_newI (pc := 7) hm2 (by decide +kernel : decode k_P_Scene_init.2.1 7 = .ok (.newarray .int, 2)) lw_arr_int g1) ?_
  have t4 : mT m2 (mC m) = 32 := by rw [hm2]; exact up1_eq
  obtain ⟨t5, h⟩ := gt_some h
  obtain ⟨m6, hm6, h⟩ := vb_some h
  have t7 : mT m6 (mC m) = 32 := by rw [hm6]; exact t4
  have t8 : mT m6 a0 = 10 := by rw [hm6]; exact t5
  refine (p_putr (pc := 9) hm6 (by decide +kernel : decode k_P_Scene_init.2.1 9 = .ok (.putfield 9, 3)) lp_9_9 t5) ?_
  refine (p_aload_n (pc := 12) (k := 0) (by decide +kernel : decode k_P_Scene_init.2.1 12 = .ok (.aload_n 0, 1)) rfl rfl) ?_
  refine (r_bipush (pc := 13) (by decide +kernel : decode k_P_Scene_init.2.1 13 = .ok (.bipush (12), 2)) (by decide : _ = (12 : Int32))) ?_
  obtain ⟨g9, h⟩ := gd_some h
  obtain ⟨m10, hm10, h⟩ := vb_some h
  refine (p_newI (pc := 15) hm10 (by decide +kernel : decode k_P_Scene_init.2.1 15 = .ok (.newarray .int, 2)) lw_arr_int g9) ?_
  have t13 : mT m10 (mC m6) = 32 := by rw [hm10]; exact up1_eq
  obtain ⟨t14, h⟩ := gt_some h
  obtain ⟨m15, hm15, h⟩ := vb_some h
  have t16 : mT m15 (mC m6) = 32 := by rw [hm15]; exact t13
  have t17 : mT m15 a0 = 10 := by rw [hm15]; exact t14
  refine (p_putr (pc := 17) hm15 (by decide +kernel : decode k_P_Scene_init.2.1 17 = .ok (.putfield 15, 3)) lp_9_15 t14) ?_
  refine (p_aload_n (pc := 20) (k := 0) (by decide +kernel : decode k_P_Scene_init.2.1 20 = .ok (.aload_n 0, 1)) rfl rfl) ?_
  refine (r_iconst (pc := 21) (by decide +kernel : decode k_P_Scene_init.2.1 21 = .ok (.iconst (-1), 1)) ic_m1) ?_
  obtain ⟨m18, hm18, h⟩ := vb_some h
  have t19 : mT m18 (mC m6) = 32 := by rw [hm18]; exact t16
  have t20 : mT m18 a0 = 10 := by rw [hm18]; exact t17
  refine (p_putI (pc := 22) hm18 (by decide +kernel : decode k_P_Scene_init.2.1 22 = .ok (.putfield 18, 3)) lp_9_18 t17) ?_
  refine (p_aload_n (pc := 25) (k := 0) (by decide +kernel : decode k_P_Scene_init.2.1 25 = .ok (.aload_n 0, 1)) rfl rfl) ?_
  refine (r_aload_n (pc := 26) (k := 1) (by decide +kernel : decode k_P_Scene_init.2.1 26 = .ok (.aload_n 1, 1)) rfl rfl) ?_
  obtain ⟨m21, hm21, h⟩ := vb_some h
  have t22 : mT m21 (mC m6) = 32 := by rw [hm21]; exact t19
  have t23 : mT m21 a0 = 10 := by rw [hm21]; exact t20
  refine (p_putR (pc := 27) hm21 (by decide +kernel : decode k_P_Scene_init.2.1 27 = .ok (.putfield 22, 3)) lp_9_22 t20) ?_
  refine (p_aload_n (pc := 30) (k := 0) (by decide +kernel : decode k_P_Scene_init.2.1 30 = .ok (.aload_n 0, 1)) rfl rfl) ?_
  refine (r_aload_n (pc := 31) (k := 2) (by decide +kernel : decode k_P_Scene_init.2.1 31 = .ok (.aload_n 2, 1)) rfl rfl) ?_
  obtain ⟨m24, hm24, h⟩ := vb_some h
  have t25 : mT m24 (mC m6) = 32 := by rw [hm24]; exact t22
  have t26 : mT m24 a0 = 10 := by rw [hm24]; exact t23
  refine (p_putR (pc := 32) hm24 (by decide +kernel : decode k_P_Scene_init.2.1 32 = .ok (.putfield 26, 3)) lp_9_26 t23) ?_
  refine (p_aload_n (pc := 35) (k := 0) (by decide +kernel : decode k_P_Scene_init.2.1 35 = .ok (.aload_n 0, 1)) rfl rfl) ?_
  refine (r_aload_n (pc := 36) (k := 3) (by decide +kernel : decode k_P_Scene_init.2.1 36 = .ok (.aload_n 3, 1)) rfl rfl) ?_
  obtain ⟨m27, hm27, h⟩ := vb_some h
  have t28 : mT m27 (mC m6) = 32 := by rw [hm27]; exact t25
  have t29 : mT m27 a0 = 10 := by rw [hm27]; exact t26
  refine (p_putR (pc := 37) hm27 (by decide +kernel : decode k_P_Scene_init.2.1 37 = .ok (.putfield 30, 3)) lp_9_30 t26) ?_
  cases h
  exact r_vret rfl (by decide +kernel : decode k_P_Scene_init.2.1 40 = .ok (.return_, 1))
set_option maxRecDepth 100000 in
set_option maxHeartbeats 4000000 in
theorem P_Reckoning_init_run {a0 : Nat} {x1 : Option Nat} {x2 : Option Nat} {m m' : Mem} {r : Unit} (ht : mT m a0 = 9) (h : P_Reckoning_init a0 x1 x2 m = some (r, m')) : Run k_P_Reckoning_init 0 [(0, .ref a0), (1, va_rf x1), (2, va_rf x2)] [] m none m' := by
  unfold P_Reckoning_init at h
  refine (p_aload_n (pc := 0) (k := 0) (by decide +kernel : decode k_P_Reckoning_init.2.1 0 = .ok (.aload_n 0, 1)) rfl rfl) ?_
  refine (r_objI (pc := 1) (by decide +kernel : decode k_P_Reckoning_init.2.1 1 = .ok (.invokespecial 3, 3)) lo_8_3 lo_inst lo_code (Nat.le_of_ble_eq_true rfl) ⟨by decide, by decide⟩) ?_
  refine (p_aload_n (pc := 4) (k := 0) (by decide +kernel : decode k_P_Reckoning_init.2.1 4 = .ok (.aload_n 0, 1)) rfl rfl) ?_
  refine (r_bipush (pc := 5) (by decide +kernel : decode k_P_Reckoning_init.2.1 5 = .ok (.bipush (7), 2)) (by decide : _ = (7 : Int32))) ?_
  obtain ⟨g1, h⟩ := gd_some h
  obtain ⟨m2, hm2, h⟩ := vb_some h
  refine (p_newR (pc := 7) (j := 2) hm2 (by decide) (by decide +kernel : decode k_P_Reckoning_init.2.1 7 = .ok (.anewarray 9, 3)) la_8_9 g1) ?_
  have t4 : mT m2 (mC m) = 38 := by rw [hm2]; exact up1_eq
  obtain ⟨t5, h⟩ := gt_some h
  obtain ⟨m6, hm6, h⟩ := vb_some h
  have t7 : mT m6 (mC m) = 38 := by rw [hm6]; exact t4
  have t8 : mT m6 a0 = 9 := by rw [hm6]; exact t5
  refine (p_putr (pc := 10) hm6 (by decide +kernel : decode k_P_Reckoning_init.2.1 10 = .ok (.putfield 11, 3)) lp_8_11 t5) ?_
  refine (p_aload_n (pc := 13) (k := 0) (by decide +kernel : decode k_P_Reckoning_init.2.1 13 = .ok (.aload_n 0, 1)) rfl rfl) ?_
  refine (r_bipush (pc := 14) (by decide +kernel : decode k_P_Reckoning_init.2.1 14 = .ok (.bipush (48), 2)) (by decide : _ = (48 : Int32))) ?_
  obtain ⟨g9, h⟩ := gd_some h
  obtain ⟨m10, hm10, h⟩ := vb_some h
  refine (p_newI (pc := 16) hm10 (by decide +kernel : decode k_P_Reckoning_init.2.1 16 = .ok (.newarray .int, 2)) lw_arr_int g9) ?_
  have t13 : mT m10 (mC m6) = 32 := by rw [hm10]; exact up1_eq
  obtain ⟨t14, h⟩ := gt_some h
  obtain ⟨m15, hm15, h⟩ := vb_some h
  have t16 : mT m15 (mC m6) = 32 := by rw [hm15]; exact t13
  have t17 : mT m15 a0 = 9 := by rw [hm15]; exact t14
  refine (p_putr (pc := 18) hm15 (by decide +kernel : decode k_P_Reckoning_init.2.1 18 = .ok (.putfield 17, 3)) lp_8_17 t14) ?_
  refine (p_aload_n (pc := 21) (k := 0) (by decide +kernel : decode k_P_Reckoning_init.2.1 21 = .ok (.aload_n 0, 1)) rfl rfl) ?_
  refine (r_bipush (pc := 22) (by decide +kernel : decode k_P_Reckoning_init.2.1 22 = .ok (.bipush (48), 2)) (by decide : _ = (48 : Int32))) ?_
  obtain ⟨g18, h⟩ := gd_some h
  obtain ⟨m19, hm19, h⟩ := vb_some h
  refine (p_newI (pc := 24) hm19 (by decide +kernel : decode k_P_Reckoning_init.2.1 24 = .ok (.newarray .int, 2)) lw_arr_int g18) ?_
  have t22 : mT m19 (mC m15) = 32 := by rw [hm19]; exact up1_eq
  obtain ⟨t23, h⟩ := gt_some h
  obtain ⟨m24, hm24, h⟩ := vb_some h
  have t25 : mT m24 (mC m15) = 32 := by rw [hm24]; exact t22
  have t26 : mT m24 a0 = 9 := by rw [hm24]; exact t23
  refine (p_putr (pc := 26) hm24 (by decide +kernel : decode k_P_Reckoning_init.2.1 26 = .ok (.putfield 21, 3)) lp_8_21 t23) ?_
  refine (p_aload_n (pc := 29) (k := 0) (by decide +kernel : decode k_P_Reckoning_init.2.1 29 = .ok (.aload_n 0, 1)) rfl rfl) ?_
  refine (r_bipush (pc := 30) (by decide +kernel : decode k_P_Reckoning_init.2.1 30 = .ok (.bipush (48), 2)) (by decide : _ = (48 : Int32))) ?_
  obtain ⟨g27, h⟩ := gd_some h
  obtain ⟨m28, hm28, h⟩ := vb_some h
  refine (p_newI (pc := 32) hm28 (by decide +kernel : decode k_P_Reckoning_init.2.1 32 = .ok (.newarray .int, 2)) lw_arr_int g27) ?_
  have t31 : mT m28 (mC m24) = 32 := by rw [hm28]; exact up1_eq
  obtain ⟨t32, h⟩ := gt_some h
  obtain ⟨m33, hm33, h⟩ := vb_some h
  have t34 : mT m33 (mC m24) = 32 := by rw [hm33]; exact t31
  have t35 : mT m33 a0 = 9 := by rw [hm33]; exact t32
  refine (p_putr (pc := 34) hm33 (by decide +kernel : decode k_P_Reckoning_init.2.1 34 = .ok (.putfield 24, 3)) lp_8_24 t32) ?_
  refine (p_aload_n (pc := 37) (k := 0) (by decide +kernel : decode k_P_Reckoning_init.2.1 37 = .ok (.aload_n 0, 1)) rfl rfl) ?_
  refine (r_bipush (pc := 38) (by decide +kernel : decode k_P_Reckoning_init.2.1 38 = .ok (.bipush (48), 2)) (by decide : _ = (48 : Int32))) ?_
  obtain ⟨g36, h⟩ := gd_some h
  obtain ⟨m37, hm37, h⟩ := vb_some h
  refine (p_newR (pc := 40) (j := 1) hm37 (by decide) (by decide +kernel : decode k_P_Reckoning_init.2.1 40 = .ok (.anewarray 27, 3)) la_8_27 g36) ?_
  have t40 : mT m37 (mC m33) = 37 := by rw [hm37]; exact up1_eq
  obtain ⟨t41, h⟩ := gt_some h
  obtain ⟨m42, hm42, h⟩ := vb_some h
  have t43 : mT m42 (mC m33) = 37 := by rw [hm42]; exact t40
  have t44 : mT m42 a0 = 9 := by rw [hm42]; exact t41
  refine (p_putr (pc := 43) hm42 (by decide +kernel : decode k_P_Reckoning_init.2.1 43 = .ok (.putfield 29, 3)) lp_8_29 t41) ?_
  refine (p_aload_n (pc := 46) (k := 0) (by decide +kernel : decode k_P_Reckoning_init.2.1 46 = .ok (.aload_n 0, 1)) rfl rfl) ?_
  refine (r_bipush (pc := 47) (by decide +kernel : decode k_P_Reckoning_init.2.1 47 = .ok (.bipush (48), 2)) (by decide : _ = (48 : Int32))) ?_
  obtain ⟨g45, h⟩ := gd_some h
  obtain ⟨m46, hm46, h⟩ := vb_some h
  refine (p_newI (pc := 49) hm46 (by decide +kernel : decode k_P_Reckoning_init.2.1 49 = .ok (.newarray .int, 2)) lw_arr_int g45) ?_
  have t49 : mT m46 (mC m42) = 32 := by rw [hm46]; exact up1_eq
  obtain ⟨t50, h⟩ := gt_some h
  obtain ⟨m51, hm51, h⟩ := vb_some h
  have t52 : mT m51 (mC m42) = 32 := by rw [hm51]; exact t49
  have t53 : mT m51 a0 = 9 := by rw [hm51]; exact t50
  refine (p_putr (pc := 51) hm51 (by decide +kernel : decode k_P_Reckoning_init.2.1 51 = .ok (.putfield 33, 3)) lp_8_33 t50) ?_
  refine (p_aload_n (pc := 54) (k := 0) (by decide +kernel : decode k_P_Reckoning_init.2.1 54 = .ok (.aload_n 0, 1)) rfl rfl) ?_
  refine (r_bipush (pc := 55) (by decide +kernel : decode k_P_Reckoning_init.2.1 55 = .ok (.bipush (48), 2)) (by decide : _ = (48 : Int32))) ?_
  obtain ⟨g54, h⟩ := gd_some h
  obtain ⟨m55, hm55, h⟩ := vb_some h
  refine (p_newR (pc := 57) (j := 1) hm55 (by decide) (by decide +kernel : decode k_P_Reckoning_init.2.1 57 = .ok (.anewarray 27, 3)) la_8_27 g54) ?_
  have t58 : mT m55 (mC m51) = 37 := by rw [hm55]; exact up1_eq
  obtain ⟨t59, h⟩ := gt_some h
  obtain ⟨m60, hm60, h⟩ := vb_some h
  have t61 : mT m60 (mC m51) = 37 := by rw [hm60]; exact t58
  have t62 : mT m60 a0 = 9 := by rw [hm60]; exact t59
  refine (p_putr (pc := 60) hm60 (by decide +kernel : decode k_P_Reckoning_init.2.1 60 = .ok (.putfield 36, 3)) lp_8_36 t59) ?_
  refine (p_aload_n (pc := 63) (k := 0) (by decide +kernel : decode k_P_Reckoning_init.2.1 63 = .ok (.aload_n 0, 1)) rfl rfl) ?_
  refine (r_bipush (pc := 64) (by decide +kernel : decode k_P_Reckoning_init.2.1 64 = .ok (.bipush (48), 2)) (by decide : _ = (48 : Int32))) ?_
  obtain ⟨g63, h⟩ := gd_some h
  obtain ⟨m64, hm64, h⟩ := vb_some h
  refine (p_newI (pc := 66) hm64 (by decide +kernel : decode k_P_Reckoning_init.2.1 66 = .ok (.newarray .int, 2)) lw_arr_int g63) ?_
  have t67 : mT m64 (mC m60) = 32 := by rw [hm64]; exact up1_eq
  obtain ⟨t68, h⟩ := gt_some h
  obtain ⟨m69, hm69, h⟩ := vb_some h
  have t70 : mT m69 (mC m60) = 32 := by rw [hm69]; exact t67
  have t71 : mT m69 a0 = 9 := by rw [hm69]; exact t68
  refine (p_putr (pc := 68) hm69 (by decide +kernel : decode k_P_Reckoning_init.2.1 68 = .ok (.putfield 39, 3)) lp_8_39 t68) ?_
  refine (p_aload_n (pc := 71) (k := 0) (by decide +kernel : decode k_P_Reckoning_init.2.1 71 = .ok (.aload_n 0, 1)) rfl rfl) ?_
  refine (r_bipush (pc := 72) (by decide +kernel : decode k_P_Reckoning_init.2.1 72 = .ok (.bipush (48), 2)) (by decide : _ = (48 : Int32))) ?_
  obtain ⟨g72, h⟩ := gd_some h
  obtain ⟨m73, hm73, h⟩ := vb_some h
  refine (p_newR (pc := 74) (j := 1) hm73 (by decide) (by decide +kernel : decode k_P_Reckoning_init.2.1 74 = .ok (.anewarray 27, 3)) la_8_27 g72) ?_
  have t76 : mT m73 (mC m69) = 37 := by rw [hm73]; exact up1_eq
  obtain ⟨t77, h⟩ := gt_some h
  obtain ⟨m78, hm78, h⟩ := vb_some h
  have t79 : mT m78 (mC m69) = 37 := by rw [hm78]; exact t76
  have t80 : mT m78 a0 = 9 := by rw [hm78]; exact t77
  refine (p_putr (pc := 77) hm78 (by decide +kernel : decode k_P_Reckoning_init.2.1 77 = .ok (.putfield 42, 3)) lp_8_42 t77) ?_
  refine (p_aload_n (pc := 80) (k := 0) (by decide +kernel : decode k_P_Reckoning_init.2.1 80 = .ok (.aload_n 0, 1)) rfl rfl) ?_
  refine (r_bipush (pc := 81) (by decide +kernel : decode k_P_Reckoning_init.2.1 81 = .ok (.bipush (48), 2)) (by decide : _ = (48 : Int32))) ?_
  obtain ⟨g81, h⟩ := gd_some h
  obtain ⟨m82, hm82, h⟩ := vb_some h
  refine (p_newI (pc := 83) hm82 (by decide +kernel : decode k_P_Reckoning_init.2.1 83 = .ok (.newarray .int, 2)) lw_arr_int g81) ?_
  have t85 : mT m82 (mC m78) = 32 := by rw [hm82]; exact up1_eq
  obtain ⟨t86, h⟩ := gt_some h
  obtain ⟨m87, hm87, h⟩ := vb_some h
  have t88 : mT m87 (mC m78) = 32 := by rw [hm87]; exact t85
  have t89 : mT m87 a0 = 9 := by rw [hm87]; exact t86
  refine (p_putr (pc := 85) hm87 (by decide +kernel : decode k_P_Reckoning_init.2.1 85 = .ok (.putfield 45, 3)) lp_8_45 t86) ?_
  refine (p_aload_n (pc := 88) (k := 0) (by decide +kernel : decode k_P_Reckoning_init.2.1 88 = .ok (.aload_n 0, 1)) rfl rfl) ?_
  refine (r_bipush (pc := 89) (by decide +kernel : decode k_P_Reckoning_init.2.1 89 = .ok (.bipush (12), 2)) (by decide : _ = (12 : Int32))) ?_
  obtain ⟨g90, h⟩ := gd_some h
  obtain ⟨m91, hm91, h⟩ := vb_some h
  refine (p_newI (pc := 91) hm91 (by decide +kernel : decode k_P_Reckoning_init.2.1 91 = .ok (.newarray .int, 2)) lw_arr_int g90) ?_
  have t94 : mT m91 (mC m87) = 32 := by rw [hm91]; exact up1_eq
  obtain ⟨t95, h⟩ := gt_some h
  obtain ⟨m96, hm96, h⟩ := vb_some h
  have t97 : mT m96 (mC m87) = 32 := by rw [hm96]; exact t94
  have t98 : mT m96 a0 = 9 := by rw [hm96]; exact t95
  refine (p_putr (pc := 93) hm96 (by decide +kernel : decode k_P_Reckoning_init.2.1 93 = .ok (.putfield 48, 3)) lp_8_48 t95) ?_
  refine (p_aload_n (pc := 96) (k := 0) (by decide +kernel : decode k_P_Reckoning_init.2.1 96 = .ok (.aload_n 0, 1)) rfl rfl) ?_
  refine (r_bipush (pc := 97) (by decide +kernel : decode k_P_Reckoning_init.2.1 97 = .ok (.bipush (60), 2)) (by decide : _ = (60 : Int32))) ?_
  obtain ⟨g99, h⟩ := gd_some h
  obtain ⟨m100, hm100, h⟩ := vb_some h
  refine (p_newI (pc := 99) hm100 (by decide +kernel : decode k_P_Reckoning_init.2.1 99 = .ok (.newarray .int, 2)) lw_arr_int g99) ?_
  have t103 : mT m100 (mC m96) = 32 := by rw [hm100]; exact up1_eq
  obtain ⟨t104, h⟩ := gt_some h
  obtain ⟨m105, hm105, h⟩ := vb_some h
  have t106 : mT m105 (mC m96) = 32 := by rw [hm105]; exact t103
  have t107 : mT m105 a0 = 9 := by rw [hm105]; exact t104
  refine (p_putr (pc := 101) hm105 (by decide +kernel : decode k_P_Reckoning_init.2.1 101 = .ok (.putfield 51, 3)) lp_8_51 t104) ?_
  refine (p_aload_n (pc := 104) (k := 0) (by decide +kernel : decode k_P_Reckoning_init.2.1 104 = .ok (.aload_n 0, 1)) rfl rfl) ?_
  refine (r_aload_n (pc := 105) (k := 1) (by decide +kernel : decode k_P_Reckoning_init.2.1 105 = .ok (.aload_n 1, 1)) rfl rfl) ?_
  obtain ⟨m108, hm108, h⟩ := vb_some h
  have t109 : mT m108 (mC m96) = 32 := by rw [hm108]; exact t106
  have t110 : mT m108 a0 = 9 := by rw [hm108]; exact t107
  refine (p_putR (pc := 106) hm108 (by decide +kernel : decode k_P_Reckoning_init.2.1 106 = .ok (.putfield 54, 3)) lp_8_54 t107) ?_
  refine (p_aload_n (pc := 109) (k := 0) (by decide +kernel : decode k_P_Reckoning_init.2.1 109 = .ok (.aload_n 0, 1)) rfl rfl) ?_
  refine (r_aload_n (pc := 110) (k := 2) (by decide +kernel : decode k_P_Reckoning_init.2.1 110 = .ok (.aload_n 2, 1)) rfl rfl) ?_
  obtain ⟨m111, hm111, h⟩ := vb_some h
  have t112 : mT m111 (mC m96) = 32 := by rw [hm111]; exact t109
  have t113 : mT m111 a0 = 9 := by rw [hm111]; exact t110
  refine (p_putR (pc := 111) hm111 (by decide +kernel : decode k_P_Reckoning_init.2.1 111 = .ok (.putfield 58, 3)) lp_8_58 t110) ?_
  cases h
  exact r_vret rfl (by decide +kernel : decode k_P_Reckoning_init.2.1 114 = .ok (.return_, 1))
set_option maxRecDepth 100000 in
set_option maxHeartbeats 4000000 in
theorem P_Parting_init_run {a0 : Nat} {m m' : Mem} {r : Unit} (ht : mT m a0 = 8) (h : P_Parting_init a0 m = some (r, m')) : Run k_P_Parting_init 0 [(0, .ref a0)] [] m none m' := by
  unfold P_Parting_init at h
  refine (p_aload_n (pc := 0) (k := 0) (by decide +kernel : decode k_P_Parting_init.2.1 0 = .ok (.aload_n 0, 1)) rfl rfl) ?_
  refine (r_objI (pc := 1) (by decide +kernel : decode k_P_Parting_init.2.1 1 = .ok (.invokespecial 3, 3)) lo_7_3 lo_inst lo_code (Nat.le_of_ble_eq_true rfl) ⟨by decide, by decide⟩) ?_
  refine (p_aload_n (pc := 4) (k := 0) (by decide +kernel : decode k_P_Parting_init.2.1 4 = .ok (.aload_n 0, 1)) rfl rfl) ?_
  refine (r_bipush (pc := 5) (by decide +kernel : decode k_P_Parting_init.2.1 5 = .ok (.bipush (16), 2)) (by decide : _ = (16 : Int32))) ?_
  obtain ⟨g1, h⟩ := gd_some h
  obtain ⟨m2, hm2, h⟩ := vb_some h
  refine (p_newI (pc := 7) hm2 (by decide +kernel : decode k_P_Parting_init.2.1 7 = .ok (.newarray .int, 2)) lw_arr_int g1) ?_
  have t4 : mT m2 (mC m) = 32 := by rw [hm2]; exact up1_eq
  obtain ⟨t5, h⟩ := gt_some h
  obtain ⟨m6, hm6, h⟩ := vb_some h
  have t7 : mT m6 (mC m) = 32 := by rw [hm6]; exact t4
  have t8 : mT m6 a0 = 8 := by rw [hm6]; exact t5
  refine (p_putr (pc := 9) hm6 (by decide +kernel : decode k_P_Parting_init.2.1 9 = .ok (.putfield 9, 3)) lp_7_9 t5) ?_
  refine (p_aload_n (pc := 12) (k := 0) (by decide +kernel : decode k_P_Parting_init.2.1 12 = .ok (.aload_n 0, 1)) rfl rfl) ?_
  refine (r_bipush (pc := 13) (by decide +kernel : decode k_P_Parting_init.2.1 13 = .ok (.bipush (16), 2)) (by decide : _ = (16 : Int32))) ?_
  obtain ⟨g9, h⟩ := gd_some h
  obtain ⟨m10, hm10, h⟩ := vb_some h
  refine (p_newI (pc := 15) hm10 (by decide +kernel : decode k_P_Parting_init.2.1 15 = .ok (.newarray .int, 2)) lw_arr_int g9) ?_
  have t13 : mT m10 (mC m6) = 32 := by rw [hm10]; exact up1_eq
  obtain ⟨t14, h⟩ := gt_some h
  obtain ⟨m15, hm15, h⟩ := vb_some h
  have t16 : mT m15 (mC m6) = 32 := by rw [hm15]; exact t13
  have t17 : mT m15 a0 = 8 := by rw [hm15]; exact t14
  refine (p_putr (pc := 17) hm15 (by decide +kernel : decode k_P_Parting_init.2.1 17 = .ok (.putfield 15, 3)) lp_7_15 t14) ?_
  refine (p_aload_n (pc := 20) (k := 0) (by decide +kernel : decode k_P_Parting_init.2.1 20 = .ok (.aload_n 0, 1)) rfl rfl) ?_
  refine (r_bipush (pc := 21) (by decide +kernel : decode k_P_Parting_init.2.1 21 = .ok (.bipush (16), 2)) (by decide : _ = (16 : Int32))) ?_
  obtain ⟨g18, h⟩ := gd_some h
  obtain ⟨m19, hm19, h⟩ := vb_some h
  refine (p_newI (pc := 23) hm19 (by decide +kernel : decode k_P_Parting_init.2.1 23 = .ok (.newarray .int, 2)) lw_arr_int g18) ?_
  have t22 : mT m19 (mC m15) = 32 := by rw [hm19]; exact up1_eq
  obtain ⟨t23, h⟩ := gt_some h
  obtain ⟨m24, hm24, h⟩ := vb_some h
  have t25 : mT m24 (mC m15) = 32 := by rw [hm24]; exact t22
  have t26 : mT m24 a0 = 8 := by rw [hm24]; exact t23
  refine (p_putr (pc := 25) hm24 (by decide +kernel : decode k_P_Parting_init.2.1 25 = .ok (.putfield 18, 3)) lp_7_18 t23) ?_
  refine (p_aload_n (pc := 28) (k := 0) (by decide +kernel : decode k_P_Parting_init.2.1 28 = .ok (.aload_n 0, 1)) rfl rfl) ?_
  refine (r_bipush (pc := 29) (by decide +kernel : decode k_P_Parting_init.2.1 29 = .ok (.bipush (16), 2)) (by decide : _ = (16 : Int32))) ?_
  obtain ⟨g27, h⟩ := gd_some h
  obtain ⟨m28, hm28, h⟩ := vb_some h
  refine (p_newI (pc := 31) hm28 (by decide +kernel : decode k_P_Parting_init.2.1 31 = .ok (.newarray .int, 2)) lw_arr_int g27) ?_
  have t31 : mT m28 (mC m24) = 32 := by rw [hm28]; exact up1_eq
  obtain ⟨t32, h⟩ := gt_some h
  obtain ⟨m33, hm33, h⟩ := vb_some h
  have t34 : mT m33 (mC m24) = 32 := by rw [hm33]; exact t31
  have t35 : mT m33 a0 = 8 := by rw [hm33]; exact t32
  refine (p_putr (pc := 33) hm33 (by decide +kernel : decode k_P_Parting_init.2.1 33 = .ok (.putfield 21, 3)) lp_7_21 t32) ?_
  refine (p_aload_n (pc := 36) (k := 0) (by decide +kernel : decode k_P_Parting_init.2.1 36 = .ok (.aload_n 0, 1)) rfl rfl) ?_
  refine (r_bipush (pc := 37) (by decide +kernel : decode k_P_Parting_init.2.1 37 = .ok (.bipush (7), 2)) (by decide : _ = (7 : Int32))) ?_
  obtain ⟨g36, h⟩ := gd_some h
  obtain ⟨m37, hm37, h⟩ := vb_some h
  refine (p_newI (pc := 39) hm37 (by decide +kernel : decode k_P_Parting_init.2.1 39 = .ok (.newarray .int, 2)) lw_arr_int g36) ?_
  have t40 : mT m37 (mC m33) = 32 := by rw [hm37]; exact up1_eq
  obtain ⟨t41, h⟩ := gt_some h
  obtain ⟨m42, hm42, h⟩ := vb_some h
  have t43 : mT m42 (mC m33) = 32 := by rw [hm42]; exact t40
  have t44 : mT m42 a0 = 8 := by rw [hm42]; exact t41
  refine (p_putr (pc := 41) hm42 (by decide +kernel : decode k_P_Parting_init.2.1 41 = .ok (.putfield 24, 3)) lp_7_24 t41) ?_
  refine (p_aload_n (pc := 44) (k := 0) (by decide +kernel : decode k_P_Parting_init.2.1 44 = .ok (.aload_n 0, 1)) rfl rfl) ?_
  refine (r_bipush (pc := 45) (by decide +kernel : decode k_P_Parting_init.2.1 45 = .ok (.bipush (7), 2)) (by decide : _ = (7 : Int32))) ?_
  obtain ⟨g45, h⟩ := gd_some h
  obtain ⟨m46, hm46, h⟩ := vb_some h
  refine (p_newI (pc := 47) hm46 (by decide +kernel : decode k_P_Parting_init.2.1 47 = .ok (.newarray .int, 2)) lw_arr_int g45) ?_
  have t49 : mT m46 (mC m42) = 32 := by rw [hm46]; exact up1_eq
  obtain ⟨t50, h⟩ := gt_some h
  obtain ⟨m51, hm51, h⟩ := vb_some h
  have t52 : mT m51 (mC m42) = 32 := by rw [hm51]; exact t49
  have t53 : mT m51 a0 = 8 := by rw [hm51]; exact t50
  refine (p_putr (pc := 49) hm51 (by decide +kernel : decode k_P_Parting_init.2.1 49 = .ok (.putfield 27, 3)) lp_7_27 t50) ?_
  refine (p_aload_n (pc := 52) (k := 0) (by decide +kernel : decode k_P_Parting_init.2.1 52 = .ok (.aload_n 0, 1)) rfl rfl) ?_
  refine (r_bipush (pc := 53) (by decide +kernel : decode k_P_Parting_init.2.1 53 = .ok (.bipush (7), 2)) (by decide : _ = (7 : Int32))) ?_
  obtain ⟨g54, h⟩ := gd_some h
  obtain ⟨m55, hm55, h⟩ := vb_some h
  refine (p_newI (pc := 55) hm55 (by decide +kernel : decode k_P_Parting_init.2.1 55 = .ok (.newarray .int, 2)) lw_arr_int g54) ?_
  have t58 : mT m55 (mC m51) = 32 := by rw [hm55]; exact up1_eq
  obtain ⟨t59, h⟩ := gt_some h
  obtain ⟨m60, hm60, h⟩ := vb_some h
  have t61 : mT m60 (mC m51) = 32 := by rw [hm60]; exact t58
  have t62 : mT m60 a0 = 8 := by rw [hm60]; exact t59
  refine (p_putr (pc := 57) hm60 (by decide +kernel : decode k_P_Parting_init.2.1 57 = .ok (.putfield 30, 3)) lp_7_30 t59) ?_
  refine (p_aload_n (pc := 60) (k := 0) (by decide +kernel : decode k_P_Parting_init.2.1 60 = .ok (.aload_n 0, 1)) rfl rfl) ?_
  refine (r_bipush (pc := 61) (by decide +kernel : decode k_P_Parting_init.2.1 61 = .ok (.bipush (7), 2)) (by decide : _ = (7 : Int32))) ?_
  obtain ⟨g63, h⟩ := gd_some h
  obtain ⟨m64, hm64, h⟩ := vb_some h
  refine (p_newI (pc := 63) hm64 (by decide +kernel : decode k_P_Parting_init.2.1 63 = .ok (.newarray .int, 2)) lw_arr_int g63) ?_
  have t67 : mT m64 (mC m60) = 32 := by rw [hm64]; exact up1_eq
  obtain ⟨t68, h⟩ := gt_some h
  obtain ⟨m69, hm69, h⟩ := vb_some h
  have t70 : mT m69 (mC m60) = 32 := by rw [hm69]; exact t67
  have t71 : mT m69 a0 = 8 := by rw [hm69]; exact t68
  refine (p_putr (pc := 65) hm69 (by decide +kernel : decode k_P_Parting_init.2.1 65 = .ok (.putfield 33, 3)) lp_7_33 t68) ?_
  refine (p_aload_n (pc := 68) (k := 0) (by decide +kernel : decode k_P_Parting_init.2.1 68 = .ok (.aload_n 0, 1)) rfl rfl) ?_
  refine (r_bipush (pc := 69) (by decide +kernel : decode k_P_Parting_init.2.1 69 = .ok (.bipush (7), 2)) (by decide : _ = (7 : Int32))) ?_
  obtain ⟨g72, h⟩ := gd_some h
  obtain ⟨m73, hm73, h⟩ := vb_some h
  refine (p_newI (pc := 71) hm73 (by decide +kernel : decode k_P_Parting_init.2.1 71 = .ok (.newarray .int, 2)) lw_arr_int g72) ?_
  have t76 : mT m73 (mC m69) = 32 := by rw [hm73]; exact up1_eq
  obtain ⟨t77, h⟩ := gt_some h
  obtain ⟨m78, hm78, h⟩ := vb_some h
  have t79 : mT m78 (mC m69) = 32 := by rw [hm78]; exact t76
  have t80 : mT m78 a0 = 8 := by rw [hm78]; exact t77
  refine (p_putr (pc := 73) hm78 (by decide +kernel : decode k_P_Parting_init.2.1 73 = .ok (.putfield 36, 3)) lp_7_36 t77) ?_
  refine (p_aload_n (pc := 76) (k := 0) (by decide +kernel : decode k_P_Parting_init.2.1 76 = .ok (.aload_n 0, 1)) rfl rfl) ?_
  refine (p_getR (pc := 77) (by decide +kernel : decode k_P_Parting_init.2.1 77 = .ok (.getfield 18, 3)) lg_7_18 t80) ?_
  refine (r_iconst (pc := 80) (by decide +kernel : decode k_P_Parting_init.2.1 80 = .ok (.iconst (-1), 1)) ic_m1) ?_
  obtain ⟨r81, m82, hr81, h⟩ := bn_some h
  have q83 := J_fill_run hr81
  refine (q_callS (pc := 81) (As := [va_rf (mR m78 898 a0), .int (-1)]) (st := []) (st2 := []) (by simp [lv_args, vrc, vrs, cti, ctr, ctl, ctn, cta]) rfl (by decide +kernel : decode k_P_Parting_init.2.1 81 = .ok (.invokestatic 39, 3)) lc_7_39 mo_J_fill ⟨Nat.le_of_ble_eq_true rfl, Nat.le_of_ble_eq_true rfl⟩ (by simp [lg_sl, vrc, vrs, cti, ctr, ctl, ctn, cta, k_J_fill]) (Nat.le_of_ble_eq_true rfl) q83.1) ?_
  have t84 : mT m82 (mC m69) = 32 := by rw [q83.2.1]; exact t79
  have t85 : mT m82 a0 = 8 := by rw [q83.2.1]; exact t80
  cases h
  exact r_vret rfl (by decide +kernel : decode k_P_Parting_init.2.1 84 = .ok (.return_, 1))
set_option maxRecDepth 100000 in
set_option maxHeartbeats 4000000 in
theorem P_init_run {a0 : Nat} {m m' : Mem} {r : Unit} (ht : mT m a0 = 12) (h : P_init a0 m = some (r, m')) : Run k_P_init 0 [(0, .ref a0)] [] m none m' := by
  unfold P_init at h
  refine (p_aload_n (pc := 0) (k := 0) (by decide +kernel : decode k_P_init.2.1 0 = .ok (.aload_n 0, 1)) rfl rfl) ?_
  refine (r_objI (pc := 1) (by decide +kernel : decode k_P_init.2.1 1 = .ok (.invokespecial 3, 3)) lo_11_3 lo_inst lo_code (Nat.le_of_ble_eq_true rfl) ⟨by decide, by decide⟩) ?_
  refine (p_aload_n (pc := 4) (k := 0) (by decide +kernel : decode k_P_init.2.1 4 = .ok (.aload_n 0, 1)) rfl rfl) ?_
  refine (r_iconst (pc := 5) (by decide +kernel : decode k_P_init.2.1 5 = .ok (.iconst (-1), 1)) ic_m1) ?_
  obtain ⟨m1, hm1, h⟩ := vb_some h
  have t2 : mT m1 a0 = 12 := by rw [hm1]; exact ht
  refine (p_putI (pc := 6) hm1 (by decide +kernel : decode k_P_init.2.1 6 = .ok (.putfield 9, 3)) lp_11_9 ht) ?_
  obtain ⟨m3, hm3, h⟩ := vb_some h
  refine (p_new (pc := 9) hm3 (by decide +kernel : decode k_P_init.2.1 9 = .ok (.new 13, 3)) ln_11_13) ?_
  have t5 : mT m3 (mC m1) = 2 := by rw [hm3]; exact up1_eq
  refine (r_dup (pc := 12) (by decide +kernel : decode k_P_init.2.1 12 = .ok (.dup, 1)) (rfl)) ?_
  obtain ⟨r6, m7, hr6, h⟩ := bn_some h
  have q8 := P_Formula_init_run t5 hr6
  refine (q_callIN (pc := 13) (As := []) (st := [.ref (mC m1)]) (st2 := [.ref (mC m1)]) (b := mC m1) rfl rfl (by decide +kernel : decode k_P_init.2.1 13 = .ok (.invokespecial 15, 3)) lc_11_15 mo_P_Formula_init ⟨Nat.le_of_ble_eq_true rfl, Nat.le_of_ble_eq_true rfl⟩ (Nat.le_of_ble_eq_true rfl) (Nat.le_of_ble_eq_true rfl) q8) ?_
  refine (p_astore_n (pc := 16) (by decide +kernel : decode k_P_init.2.1 16 = .ok (.astore_n 1, 1)) rfl (by decide) rfl (ls2 := [(1, .ref (mC m1)), (0, .ref a0)]) (i := 1)) ?_
  refine (p_aload_n (pc := 17) (k := 1) (by decide +kernel : decode k_P_init.2.1 17 = .ok (.aload_n 0, 1)) rfl rfl) ?_
  obtain ⟨m9, hm9, h⟩ := vb_some h
  refine (p_new (pc := 18) hm9 (by decide +kernel : decode k_P_init.2.1 18 = .ok (.new 16, 3)) ln_11_16) ?_
  have t10 : mT m9 (mC m7) = 4 := by rw [hm9]; exact up1_eq
  refine (r_dup (pc := 21) (by decide +kernel : decode k_P_init.2.1 21 = .ok (.dup, 1)) (rfl)) ?_
  obtain ⟨r11, m12, hr11, h⟩ := bn_some h
  have q13 := P_Land_init_run t10 hr11
  refine (q_callI (pc := 22) (As := []) (st := [.ref (mC m7), .ref a0]) (st2 := [.ref (mC m7), .ref a0]) (b := mC m7) rfl rfl (by decide +kernel : decode k_P_init.2.1 22 = .ok (.invokespecial 18, 3)) lc_11_18 mo_P_Land_init ⟨Nat.le_of_ble_eq_true rfl, Nat.le_of_ble_eq_true rfl⟩ (Nat.le_of_ble_eq_true rfl) (Nat.le_of_ble_eq_true rfl) q13) ?_
  obtain ⟨t14, h⟩ := gt_some h
  obtain ⟨m15, hm15, h⟩ := vb_some h
  have t16 : mT m15 a0 = 12 := by rw [hm15]; exact t14
  refine (p_putr (pc := 25) hm15 (by decide +kernel : decode k_P_init.2.1 25 = .ok (.putfield 19, 3)) lp_11_19 t14) ?_
  refine (p_aload_n (pc := 28) (k := 1) (by decide +kernel : decode k_P_init.2.1 28 = .ok (.aload_n 0, 1)) rfl rfl) ?_
  obtain ⟨m17, hm17, h⟩ := vb_some h
  refine (p_new (pc := 29) hm17 (by decide +kernel : decode k_P_init.2.1 29 = .ok (.new 23, 3)) ln_11_23) ?_
  have t19 : mT m17 (mC m15) = 5 := by rw [hm17]; exact up1_eq
  refine (r_dup (pc := 32) (by decide +kernel : decode k_P_init.2.1 32 = .ok (.dup, 1)) (rfl)) ?_
  obtain ⟨r20, m21, hr20, h⟩ := bn_some h
  have q22 := P_Ledger_init_run t19 hr20
  refine (q_callIN (pc := 33) (As := []) (st := [.ref (mC m15), .ref a0]) (st2 := [.ref (mC m15), .ref a0]) (b := mC m15) rfl rfl (by decide +kernel : decode k_P_init.2.1 33 = .ok (.invokespecial 25, 3)) lc_11_25 mo_P_Ledger_init ⟨Nat.le_of_ble_eq_true rfl, Nat.le_of_ble_eq_true rfl⟩ (Nat.le_of_ble_eq_true rfl) (Nat.le_of_ble_eq_true rfl) q22) ?_
  obtain ⟨t23, h⟩ := gt_some h
  obtain ⟨m24, hm24, h⟩ := vb_some h
  have t25 : mT m24 a0 = 12 := by rw [hm24]; exact t23
  refine (p_putr (pc := 36) hm24 (by decide +kernel : decode k_P_init.2.1 36 = .ok (.putfield 26, 3)) lp_11_26 t23) ?_
  refine (p_aload_n (pc := 39) (k := 1) (by decide +kernel : decode k_P_init.2.1 39 = .ok (.aload_n 0, 1)) rfl rfl) ?_
  obtain ⟨m26, hm26, h⟩ := vb_some h
  refine (p_new (pc := 40) hm26 (by decide +kernel : decode k_P_init.2.1 40 = .ok (.new 30, 3)) ln_11_30) ?_
  have t28 : mT m26 (mC m24) = 6 := by rw [hm26]; exact up1_eq
  refine (r_dup (pc := 43) (by decide +kernel : decode k_P_init.2.1 43 = .ok (.dup, 1)) (rfl)) ?_
  obtain ⟨r29, m30, hr29, h⟩ := bn_some h
  have q31 := P_Lexer_init_run t28 hr29
  refine (q_callI (pc := 44) (As := []) (st := [.ref (mC m24), .ref a0]) (st2 := [.ref (mC m24), .ref a0]) (b := mC m24) rfl rfl (by decide +kernel : decode k_P_init.2.1 44 = .ok (.invokespecial 32, 3)) lc_11_32 mo_P_Lexer_init ⟨Nat.le_of_ble_eq_true rfl, Nat.le_of_ble_eq_true rfl⟩ (Nat.le_of_ble_eq_true rfl) (Nat.le_of_ble_eq_true rfl) q31) ?_
  obtain ⟨t32, h⟩ := gt_some h
  obtain ⟨m33, hm33, h⟩ := vb_some h
  have t34 : mT m33 a0 = 12 := by rw [hm33]; exact t32
  refine (p_putr (pc := 47) hm33 (by decide +kernel : decode k_P_init.2.1 47 = .ok (.putfield 33, 3)) lp_11_33 t32) ?_
  refine (p_aload_n (pc := 50) (k := 1) (by decide +kernel : decode k_P_init.2.1 50 = .ok (.aload_n 0, 1)) rfl rfl) ?_
  obtain ⟨m35, hm35, h⟩ := vb_some h
  refine (p_new (pc := 51) hm35 (by decide +kernel : decode k_P_init.2.1 51 = .ok (.new 37, 3)) ln_11_37) ?_
  have t37 : mT m35 (mC m33) = 7 := by rw [hm35]; exact up1_eq
  refine (r_dup (pc := 54) (by decide +kernel : decode k_P_init.2.1 54 = .ok (.dup, 1)) (rfl)) ?_
  refine (p_aload_n (pc := 55) (k := 1) (by decide +kernel : decode k_P_init.2.1 55 = .ok (.aload_n 0, 1)) rfl rfl) ?_
  obtain ⟨t38, h⟩ := gt_some h
  refine (p_getR (pc := 56) (by decide +kernel : decode k_P_init.2.1 56 = .ok (.getfield 33, 3)) lg_11_33 t38) ?_
  refine (p_aload_n (pc := 59) (k := 1) (by decide +kernel : decode k_P_init.2.1 59 = .ok (.aload_n 0, 1)) rfl rfl) ?_
  refine (p_getR (pc := 60) (by decide +kernel : decode k_P_init.2.1 60 = .ok (.getfield 26, 3)) lg_11_26 t38) ?_
  refine (p_aload_n (pc := 63) (k := 0) (by decide +kernel : decode k_P_init.2.1 63 = .ok (.aload_n 1, 1)) rfl rfl) ?_
  obtain ⟨r39, m40, hr39, h⟩ := bn_some h
  have q41 := P_Parser_init_run t37 hr39
  refine (q_callI (pc := 64) (As := [va_rf (mR m35 1410 a0), va_rf (mR m35 1409 a0), .ref (mC m1)]) (st := [.ref (mC m33), .ref a0]) (st2 := [.ref (mC m33), .ref a0]) (b := mC m33) (by simp [lv_args, vrc, vrs, cti, ctr, ctl, ctn, cta]) rfl (by decide +kernel : decode k_P_init.2.1 64 = .ok (.invokespecial 39, 3)) lc_11_39 mo_P_Parser_init ⟨Nat.le_of_ble_eq_true rfl, Nat.le_of_ble_eq_true rfl⟩ (by simp [lg_sl, vrc, vrs, cti, ctr, ctl, ctn, cta, k_P_Parser_init]) (Nat.le_of_ble_eq_true rfl) q41) ?_
  obtain ⟨t42, h⟩ := gt_some h
  obtain ⟨m43, hm43, h⟩ := vb_some h
  have t44 : mT m43 a0 = 12 := by rw [hm43]; exact t42
  refine (p_putr (pc := 67) hm43 (by decide +kernel : decode k_P_init.2.1 67 = .ok (.putfield 42, 3)) lp_11_42 t42) ?_
  refine (p_aload_n (pc := 70) (k := 1) (by decide +kernel : decode k_P_init.2.1 70 = .ok (.aload_n 0, 1)) rfl rfl) ?_
  obtain ⟨m45, hm45, h⟩ := vb_some h
  refine (p_new (pc := 71) hm45 (by decide +kernel : decode k_P_init.2.1 71 = .ok (.new 46, 3)) ln_11_46) ?_
  have t47 : mT m45 (mC m43) = 10 := by rw [hm45]; exact up1_eq
  refine (r_dup (pc := 74) (by decide +kernel : decode k_P_init.2.1 74 = .ok (.dup, 1)) (rfl)) ?_
  refine (p_aload_n (pc := 75) (k := 1) (by decide +kernel : decode k_P_init.2.1 75 = .ok (.aload_n 0, 1)) rfl rfl) ?_
  obtain ⟨t48, h⟩ := gt_some h
  refine (p_getR (pc := 76) (by decide +kernel : decode k_P_init.2.1 76 = .ok (.getfield 19, 3)) lg_11_19 t48) ?_
  refine (p_aload_n (pc := 79) (k := 1) (by decide +kernel : decode k_P_init.2.1 79 = .ok (.aload_n 0, 1)) rfl rfl) ?_
  refine (p_getR (pc := 80) (by decide +kernel : decode k_P_init.2.1 80 = .ok (.getfield 26, 3)) lg_11_26 t48) ?_
  refine (p_aload_n (pc := 83) (k := 0) (by decide +kernel : decode k_P_init.2.1 83 = .ok (.aload_n 1, 1)) rfl rfl) ?_
  obtain ⟨r49, m50, hr49, h⟩ := bn_some h
  have q51 := P_Scene_init_run t47 hr49
  refine (q_callI (pc := 84) (As := [va_rf (mR m45 1408 a0), va_rf (mR m45 1409 a0), .ref (mC m1)]) (st := [.ref (mC m43), .ref a0]) (st2 := [.ref (mC m43), .ref a0]) (b := mC m43) (by simp [lv_args, vrc, vrs, cti, ctr, ctl, ctn, cta]) rfl (by decide +kernel : decode k_P_init.2.1 84 = .ok (.invokespecial 48, 3)) lc_11_48 mo_P_Scene_init ⟨Nat.le_of_ble_eq_true rfl, Nat.le_of_ble_eq_true rfl⟩ (by simp [lg_sl, vrc, vrs, cti, ctr, ctl, ctn, cta, k_P_Scene_init]) (Nat.le_of_ble_eq_true rfl) q51) ?_
  obtain ⟨t52, h⟩ := gt_some h
  obtain ⟨m53, hm53, h⟩ := vb_some h
  have t54 : mT m53 a0 = 12 := by rw [hm53]; exact t52
  refine (p_putr (pc := 87) hm53 (by decide +kernel : decode k_P_init.2.1 87 = .ok (.putfield 51, 3)) lp_11_51 t52) ?_
  refine (p_aload_n (pc := 90) (k := 1) (by decide +kernel : decode k_P_init.2.1 90 = .ok (.aload_n 0, 1)) rfl rfl) ?_
  obtain ⟨m55, hm55, h⟩ := vb_some h
  refine (p_new (pc := 91) hm55 (by decide +kernel : decode k_P_init.2.1 91 = .ok (.new 55, 3)) ln_11_55) ?_
  have t57 : mT m55 (mC m53) = 9 := by rw [hm55]; exact up1_eq
  refine (r_dup (pc := 94) (by decide +kernel : decode k_P_init.2.1 94 = .ok (.dup, 1)) (rfl)) ?_
  refine (p_aload_n (pc := 95) (k := 1) (by decide +kernel : decode k_P_init.2.1 95 = .ok (.aload_n 0, 1)) rfl rfl) ?_
  obtain ⟨t58, h⟩ := gt_some h
  refine (p_getR (pc := 96) (by decide +kernel : decode k_P_init.2.1 96 = .ok (.getfield 26, 3)) lg_11_26 t58) ?_
  refine (p_aload_n (pc := 99) (k := 1) (by decide +kernel : decode k_P_init.2.1 99 = .ok (.aload_n 0, 1)) rfl rfl) ?_
  refine (p_getR (pc := 100) (by decide +kernel : decode k_P_init.2.1 100 = .ok (.getfield 51, 3)) lg_11_51 t58) ?_
  obtain ⟨r59, m60, hr59, h⟩ := bn_some h
  have q61 := P_Reckoning_init_run t57 hr59
  refine (q_callI (pc := 103) (As := [va_rf (mR m55 1409 a0), va_rf (mR m55 1412 a0)]) (st := [.ref (mC m53), .ref a0]) (st2 := [.ref (mC m53), .ref a0]) (b := mC m53) (by simp [lv_args, vrc, vrs, cti, ctr, ctl, ctn, cta]) rfl (by decide +kernel : decode k_P_init.2.1 103 = .ok (.invokespecial 57, 3)) lc_11_57 mo_P_Reckoning_init ⟨Nat.le_of_ble_eq_true rfl, Nat.le_of_ble_eq_true rfl⟩ (by simp [lg_sl, vrc, vrs, cti, ctr, ctl, ctn, cta, k_P_Reckoning_init]) (Nat.le_of_ble_eq_true rfl) q61) ?_
  obtain ⟨t62, h⟩ := gt_some h
  obtain ⟨m63, hm63, h⟩ := vb_some h
  have t64 : mT m63 a0 = 12 := by rw [hm63]; exact t62
  refine (p_putr (pc := 106) hm63 (by decide +kernel : decode k_P_init.2.1 106 = .ok (.putfield 60, 3)) lp_11_60 t62) ?_
  refine (p_aload_n (pc := 109) (k := 1) (by decide +kernel : decode k_P_init.2.1 109 = .ok (.aload_n 0, 1)) rfl rfl) ?_
  obtain ⟨m65, hm65, h⟩ := vb_some h
  refine (p_new (pc := 110) hm65 (by decide +kernel : decode k_P_init.2.1 110 = .ok (.new 64, 3)) ln_11_64) ?_
  have t67 : mT m65 (mC m63) = 8 := by rw [hm65]; exact up1_eq
  refine (r_dup (pc := 113) (by decide +kernel : decode k_P_init.2.1 113 = .ok (.dup, 1)) (rfl)) ?_
  obtain ⟨r68, m69, hr68, h⟩ := bn_some h
  have q70 := P_Parting_init_run t67 hr68
  refine (q_callI (pc := 114) (As := []) (st := [.ref (mC m63), .ref a0]) (st2 := [.ref (mC m63), .ref a0]) (b := mC m63) rfl rfl (by decide +kernel : decode k_P_init.2.1 114 = .ok (.invokespecial 66, 3)) lc_11_66 mo_P_Parting_init ⟨Nat.le_of_ble_eq_true rfl, Nat.le_of_ble_eq_true rfl⟩ (Nat.le_of_ble_eq_true rfl) (Nat.le_of_ble_eq_true rfl) q70) ?_
  obtain ⟨t71, h⟩ := gt_some h
  obtain ⟨m72, hm72, h⟩ := vb_some h
  have t73 : mT m72 a0 = 12 := by rw [hm72]; exact t71
  refine (p_putr (pc := 117) hm72 (by decide +kernel : decode k_P_init.2.1 117 = .ok (.putfield 67, 3)) lp_11_67 t71) ?_
  cases h
  exact r_vret rfl (by decide +kernel : decode k_P_init.2.1 120 = .ok (.return_, 1))
