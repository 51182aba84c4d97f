/-! written by gen/emit.py -/
set_option maxRecDepth 100000 in
set_option maxHeartbeats 4000000 in
theorem R_init_1567_run {n : Nat} {a0 : Nat} {x1 : Int32} {m m' : Mem} {r : Unit} (ht : mT m a0 = 13) (h : R_init_1567 n a0 x1 m = some (r, m')) : Run k_R_init 1567 [(0, .ref a0), (1, .int x1)] [] m none m' := by
  induction n generalizing a0 x1 m r m' with
  | zero => exact absurd h (by simp [R_init_1567])
  | succ n ih =>
    rw [R_init_1567.eq_2] at h
    refine (r_iload_n (pc := 1567) (k := 1) (by decide +kernel : decode k_R_init.2.1 1567 = .ok (.iload_n 1, 1)) rfl rfl) ?_
    refine (r_iconst (pc := 1568) (by decide +kernel : decode k_R_init.2.1 1568 = .ok (.iconst 4, 1)) ic_4) ?_
    rcases ite_some h with ⟨c1, h⟩ | ⟨c1, h⟩
    · refine (r_icmp_ge_t (pc := 1569) (tgt := 1585) (by decide +kernel : decode k_R_init.2.1 1569 = .ok (.if_icmp .ge (16), 3)) (by decide) c1) ?_
      cases h
      exact r_vret rfl (by decide +kernel : decode k_R_init.2.1 1585 = .ok (.return_, 1))
    · refine (r_icmp_ge_f (pc := 1569) 1585 (by decide +kernel : decode k_R_init.2.1 1569 = .ok (.if_icmp .ge (16), 3)) (by decide) c1) ?_
      refine (p_aload_n (pc := 1572) (k := 0) (by decide +kernel : decode k_R_init.2.1 1572 = .ok (.aload_n 0, 1)) rfl rfl) ?_
      obtain ⟨a2, o3, h⟩ := gs_some h
      refine (p_getr (pc := 1573) o3 (by decide +kernel : decode k_R_init.2.1 1573 = .ok (.getfield 146, 3)) lg_12_146 ht) ?_
      refine (r_iload_n (pc := 1576) (k := 1) (by decide +kernel : decode k_R_init.2.1 1576 = .ok (.iload_n 1, 1)) rfl rfl) ?_
      refine (r_iconst (pc := 1577) (by decide +kernel : decode k_R_init.2.1 1577 = .ok (.iconst 1, 1)) ic_1) ?_
      obtain ⟨t4, h⟩ := gt_some h
      obtain ⟨g5, h⟩ := gd_some h
      obtain ⟨m6, hm6, h⟩ := vb_some h
      have t7 : mT m6 a0 = 13 := by rw [hm6]; exact ht
      have t8 : mT m6 a2 = 32 := by rw [hm6]; exact t4
      refine (p_iast (pc := 1578) hm6 (by decide +kernel : decode k_R_init.2.1 1578 = .ok (.iastore, 1)) t4 rfl g5) ?_
      obtain ⟨v9, hv9, h⟩ := vb_some h
      refine (e_iinc (pc := 1579) (k := 1) hv9 ic_1 (by decide +kernel : decode k_R_init.2.1 1579 = .ok (.iinc 1 (1), 3)) rfl (by decide) rfl (ls2 := [(1, .int v9), (0, .ref a0)]) (i := 1)) ?_
      refine (r_goto (pc := 1582) (tgt := 1567) (by decide +kernel : decode k_R_init.2.1 1582 = .ok (.goto (-15), 3)) (by decide)) ?_
      exact (r_sub [1, 0] rfl (ih t7 h))
set_option maxRecDepth 100000 in
set_option maxHeartbeats 4000000 in
theorem R_init_run {a0 : Nat} {m m' : Mem} {r : Unit} (ht : mT m a0 = 13) (h : R_init a0 m = some (r, m')) : Run k_R_init 0 [(0, .ref a0)] [] m none m' := by
  unfold R_init at h
  refine (p_aload_n (pc := 0) (k := 0) (by decide +kernel : decode k_R_init.2.1 0 = .ok (.aload_n 0, 1)) rfl rfl) ?_
  refine (r_objI (pc := 1) (by decide +kernel : decode k_R_init.2.1 1 = .ok (.invokespecial 7, 3)) lo_12_7 lo_inst lo_code (Nat.le_of_ble_eq_true rfl) ⟨by decide, by decide⟩) ?_
  refine (p_aload_n (pc := 4) (k := 0) (by decide +kernel : decode k_R_init.2.1 4 = .ok (.aload_n 0, 1)) rfl rfl) ?_
  refine (r_sipush (pc := 5) (by decide +kernel : decode k_R_init.2.1 5 = .ok (.sipush (2000), 3)) (by decide : _ = (2000 : Int32))) ?_
  obtain ⟨g1, h⟩ := gd_some h
  obtain ⟨m2, hm2, h⟩ := vb_some h
  refine (p_newB (pc := 8) hm2 (by decide +kernel : decode k_R_init.2.1 8 = .ok (.newarray .byte, 2)) lw_arr_byte g1) ?_
  have t4 : mT m2 (mC m) = 33 := by rw [hm2]; exact up1_eq
  obtain ⟨t5, h⟩ := gt_some h
  obtain ⟨m6, hm6, h⟩ := vb_some h
  have t7 : mT m6 (mC m) = 33 := by rw [hm6]; exact t4
  have t8 : mT m6 a0 = 13 := by rw [hm6]; exact t5
  refine (p_putr (pc := 10) hm6 (by decide +kernel : decode k_R_init.2.1 10 = .ok (.putfield 13, 3)) lp_12_13 t5) ?_
  refine (p_aload_n (pc := 13) (k := 0) (by decide +kernel : decode k_R_init.2.1 13 = .ok (.aload_n 0, 1)) rfl rfl) ?_
  refine (r_sipush (pc := 14) (by decide +kernel : decode k_R_init.2.1 14 = .ok (.sipush (2000), 3)) (by decide : _ = (2000 : Int32))) ?_
  obtain ⟨g9, h⟩ := gd_some h
  obtain ⟨m10, hm10, h⟩ := vb_some h
  refine (p_newB (pc := 17) hm10 (by decide +kernel : decode k_R_init.2.1 17 = .ok (.newarray .byte, 2)) lw_arr_byte g9) ?_
  have t13 : mT m10 (mC m6) = 33 := by rw [hm10]; exact up1_eq
  obtain ⟨t14, h⟩ := gt_some h
  obtain ⟨m15, hm15, h⟩ := vb_some h
  have t16 : mT m15 (mC m6) = 33 := by rw [hm15]; exact t13
  have t17 : mT m15 a0 = 13 := by rw [hm15]; exact t14
  refine (p_putr (pc := 19) hm15 (by decide +kernel : decode k_R_init.2.1 19 = .ok (.putfield 17, 3)) lp_12_17 t14) ?_
  refine (p_aload_n (pc := 22) (k := 0) (by decide +kernel : decode k_R_init.2.1 22 = .ok (.aload_n 0, 1)) rfl rfl) ?_
  refine (r_sipush (pc := 23) (by decide +kernel : decode k_R_init.2.1 23 = .ok (.sipush (503), 3)) (by decide : _ = (503 : Int32))) ?_
  obtain ⟨g18, h⟩ := gd_some h
  obtain ⟨m19, hm19, h⟩ := vb_some h
  refine (p_newI (pc := 26) hm19 (by decide +kernel : decode k_R_init.2.1 26 = .ok (.newarray .int, 2)) lw_arr_int g18) ?_
  have t22 : mT m19 (mC m15) = 32 := by rw [hm19]; exact up1_eq
  obtain ⟨t23, h⟩ := gt_some h
  obtain ⟨m24, hm24, h⟩ := vb_some h
  have t25 : mT m24 (mC m15) = 32 := by rw [hm24]; exact t22
  have t26 : mT m24 a0 = 13 := by rw [hm24]; exact t23
  refine (p_putr (pc := 28) hm24 (by decide +kernel : decode k_R_init.2.1 28 = .ok (.putfield 20, 3)) lp_12_20 t23) ?_
  refine (p_aload_n (pc := 31) (k := 0) (by decide +kernel : decode k_R_init.2.1 31 = .ok (.aload_n 0, 1)) rfl rfl) ?_
  refine (r_sipush (pc := 32) (by decide +kernel : decode k_R_init.2.1 32 = .ok (.sipush (503), 3)) (by decide : _ = (503 : Int32))) ?_
  obtain ⟨g27, h⟩ := gd_some h
  obtain ⟨m28, hm28, h⟩ := vb_some h
  refine (p_newI (pc := 35) hm28 (by decide +kernel : decode k_R_init.2.1 35 = .ok (.newarray .int, 2)) lw_arr_int g27) ?_
  have t31 : mT m28 (mC m24) = 32 := by rw [hm28]; exact up1_eq
  obtain ⟨t32, h⟩ := gt_some h
  obtain ⟨m33, hm33, h⟩ := vb_some h
  have t34 : mT m33 (mC m24) = 32 := by rw [hm33]; exact t31
  have t35 : mT m33 a0 = 13 := by rw [hm33]; exact t32
  refine (p_putr (pc := 37) hm33 (by decide +kernel : decode k_R_init.2.1 37 = .ok (.putfield 24, 3)) lp_12_24 t32) ?_
  refine (p_aload_n (pc := 40) (k := 0) (by decide +kernel : decode k_R_init.2.1 40 = .ok (.aload_n 0, 1)) rfl rfl) ?_
  refine (r_sipush (pc := 41) (by decide +kernel : decode k_R_init.2.1 41 = .ok (.sipush (503), 3)) (by decide : _ = (503 : Int32))) ?_
  obtain ⟨g36, h⟩ := gd_some h
  obtain ⟨m37, hm37, h⟩ := vb_some h
  refine (p_newI (pc := 44) hm37 (by decide +kernel : decode k_R_init.2.1 44 = .ok (.newarray .int, 2)) lw_arr_int g36) ?_
  have t40 : mT m37 (mC m33) = 32 := by rw [hm37]; exact up1_eq
  obtain ⟨t41, h⟩ := gt_some h
  obtain ⟨m42, hm42, h⟩ := vb_some h
  have t43 : mT m42 (mC m33) = 32 := by rw [hm42]; exact t40
  have t44 : mT m42 a0 = 13 := by rw [hm42]; exact t41
  refine (p_putr (pc := 46) hm42 (by decide +kernel : decode k_R_init.2.1 46 = .ok (.putfield 27, 3)) lp_12_27 t41) ?_
  refine (p_aload_n (pc := 49) (k := 0) (by decide +kernel : decode k_R_init.2.1 49 = .ok (.aload_n 0, 1)) rfl rfl) ?_
  refine (r_sipush (pc := 50) (by decide +kernel : decode k_R_init.2.1 50 = .ok (.sipush (503), 3)) (by decide : _ = (503 : Int32))) ?_
  obtain ⟨g45, h⟩ := gd_some h
  obtain ⟨m46, hm46, h⟩ := vb_some h
  refine (p_newL (pc := 53) hm46 (by decide +kernel : decode k_R_init.2.1 53 = .ok (.newarray .long, 2)) lw_arr_long g45) ?_
  have t49 : mT m46 (mC m42) = 35 := by rw [hm46]; exact up1_eq
  obtain ⟨t50, h⟩ := gt_some h
  obtain ⟨m51, hm51, h⟩ := vb_some h
  have t52 : mT m51 (mC m42) = 35 := by rw [hm51]; exact t49
  have t53 : mT m51 a0 = 13 := by rw [hm51]; exact t50
  refine (p_putr (pc := 55) hm51 (by decide +kernel : decode k_R_init.2.1 55 = .ok (.putfield 30, 3)) lp_12_30 t50) ?_
  refine (p_aload_n (pc := 58) (k := 0) (by decide +kernel : decode k_R_init.2.1 58 = .ok (.aload_n 0, 1)) rfl rfl) ?_
  refine (r_bipush (pc := 59) (by decide +kernel : decode k_R_init.2.1 59 = .ok (.bipush (40), 2)) (by decide : _ = (40 : Int32))) ?_
  obtain ⟨g54, h⟩ := gd_some h
  obtain ⟨m55, hm55, h⟩ := vb_some h
  refine (p_newL (pc := 61) hm55 (by decide +kernel : decode k_R_init.2.1 61 = .ok (.newarray .long, 2)) lw_arr_long g54) ?_
  have t58 : mT m55 (mC m51) = 35 := by rw [hm55]; exact up1_eq
  obtain ⟨t59, h⟩ := gt_some h
  obtain ⟨m60, hm60, h⟩ := vb_some h
  have t61 : mT m60 (mC m51) = 35 := by rw [hm60]; exact t58
  have t62 : mT m60 a0 = 13 := by rw [hm60]; exact t59
  refine (p_putr (pc := 63) hm60 (by decide +kernel : decode k_R_init.2.1 63 = .ok (.putfield 34, 3)) lp_12_34 t59) ?_
  refine (p_aload_n (pc := 66) (k := 0) (by decide +kernel : decode k_R_init.2.1 66 = .ok (.aload_n 0, 1)) rfl rfl) ?_
  refine (r_iconst (pc := 67) (by decide +kernel : decode k_R_init.2.1 67 = .ok (.iconst (-1), 1)) ic_m1) ?_
  obtain ⟨m63, hm63, h⟩ := vb_some h
  have t64 : mT m63 (mC m51) = 35 := by rw [hm63]; exact t61
  have t65 : mT m63 a0 = 13 := by rw [hm63]; exact t62
  refine (p_putI (pc := 68) hm63 (by decide +kernel : decode k_R_init.2.1 68 = .ok (.putfield 37, 3)) lp_12_37 t62) ?_
  refine (p_aload_n (pc := 71) (k := 0) (by decide +kernel : decode k_R_init.2.1 71 = .ok (.aload_n 0, 1)) rfl rfl) ?_
  refine (r_bipush (pc := 72) (by decide +kernel : decode k_R_init.2.1 72 = .ok (.bipush (25), 2)) (by decide : _ = (25 : Int32))) ?_
  obtain ⟨g66, h⟩ := gd_some h
  obtain ⟨m67, hm67, h⟩ := vb_some h
  refine (p_newI (pc := 74) hm67 (by decide +kernel : decode k_R_init.2.1 74 = .ok (.newarray .int, 2)) lw_arr_int g66) ?_
  have t70 : mT m67 (mC m63) = 32 := by rw [hm67]; exact up1_eq
  obtain ⟨t71, h⟩ := gt_some h
  obtain ⟨m72, hm72, h⟩ := vb_some h
  have t73 : mT m72 (mC m63) = 32 := by rw [hm72]; exact t70
  have t74 : mT m72 a0 = 13 := by rw [hm72]; exact t71
  refine (p_putr (pc := 76) hm72 (by decide +kernel : decode k_R_init.2.1 76 = .ok (.putfield 40, 3)) lp_12_40 t71) ?_
  refine (p_aload_n (pc := 79) (k := 0) (by decide +kernel : decode k_R_init.2.1 79 = .ok (.aload_n 0, 1)) rfl rfl) ?_
  refine (r_bipush (pc := 80) (by decide +kernel : decode k_R_init.2.1 80 = .ok (.bipush (25), 2)) (by decide : _ = (25 : Int32))) ?_
  obtain ⟨g75, h⟩ := gd_some h
  obtain ⟨m76, hm76, h⟩ := vb_some h
  refine (p_newI (pc := 82) hm76 (by decide +kernel : decode k_R_init.2.1 82 = .ok (.newarray .int, 2)) lw_arr_int g75) ?_
  have t79 : mT m76 (mC m72) = 32 := by rw [hm76]; exact up1_eq
  obtain ⟨t80, h⟩ := gt_some h
  obtain ⟨m81, hm81, h⟩ := vb_some h
  have t82 : mT m81 (mC m72) = 32 := by rw [hm81]; exact t79
  have t83 : mT m81 a0 = 13 := by rw [hm81]; exact t80
  refine (p_putr (pc := 84) hm81 (by decide +kernel : decode k_R_init.2.1 84 = .ok (.putfield 43, 3)) lp_12_43 t80) ?_
  refine (p_aload_n (pc := 87) (k := 0) (by decide +kernel : decode k_R_init.2.1 87 = .ok (.aload_n 0, 1)) rfl rfl) ?_
  refine (r_bipush (pc := 88) (by decide +kernel : decode k_R_init.2.1 88 = .ok (.bipush (25), 2)) (by decide : _ = (25 : Int32))) ?_
  obtain ⟨g84, h⟩ := gd_some h
  obtain ⟨m85, hm85, h⟩ := vb_some h
  refine (p_newI (pc := 90) hm85 (by decide +kernel : decode k_R_init.2.1 90 = .ok (.newarray .int, 2)) lw_arr_int g84) ?_
  have t88 : mT m85 (mC m81) = 32 := by rw [hm85]; exact up1_eq
  obtain ⟨t89, h⟩ := gt_some h
  obtain ⟨m90, hm90, h⟩ := vb_some h
  have t91 : mT m90 (mC m81) = 32 := by rw [hm90]; exact t88
  have t92 : mT m90 a0 = 13 := by rw [hm90]; exact t89
  refine (p_putr (pc := 92) hm90 (by decide +kernel : decode k_R_init.2.1 92 = .ok (.putfield 46, 3)) lp_12_46 t89) ?_
  refine (p_aload_n (pc := 95) (k := 0) (by decide +kernel : decode k_R_init.2.1 95 = .ok (.aload_n 0, 1)) rfl rfl) ?_
  refine (r_bipush (pc := 96) (by decide +kernel : decode k_R_init.2.1 96 = .ok (.bipush (25), 2)) (by decide : _ = (25 : Int32))) ?_
  obtain ⟨g93, h⟩ := gd_some h
  obtain ⟨m94, hm94, h⟩ := vb_some h
  refine (p_newI (pc := 98) hm94 (by decide +kernel : decode k_R_init.2.1 98 = .ok (.newarray .int, 2)) lw_arr_int g93) ?_
  have t97 : mT m94 (mC m90) = 32 := by rw [hm94]; exact up1_eq
  obtain ⟨t98, h⟩ := gt_some h
  obtain ⟨m99, hm99, h⟩ := vb_some h
  have t100 : mT m99 (mC m90) = 32 := by rw [hm99]; exact t97
  have t101 : mT m99 a0 = 13 := by rw [hm99]; exact t98
  refine (p_putr (pc := 100) hm99 (by decide +kernel : decode k_R_init.2.1 100 = .ok (.putfield 49, 3)) lp_12_49 t98) ?_
  refine (p_aload_n (pc := 103) (k := 0) (by decide +kernel : decode k_R_init.2.1 103 = .ok (.aload_n 0, 1)) rfl rfl) ?_
  refine (r_bipush (pc := 104) (by decide +kernel : decode k_R_init.2.1 104 = .ok (.bipush (25), 2)) (by decide : _ = (25 : Int32))) ?_
  obtain ⟨g102, h⟩ := gd_some h
  obtain ⟨m103, hm103, h⟩ := vb_some h
  refine (p_newI (pc := 106) hm103 (by decide +kernel : decode k_R_init.2.1 106 = .ok (.newarray .int, 2)) lw_arr_int g102) ?_
  have t106 : mT m103 (mC m99) = 32 := by rw [hm103]; exact up1_eq
  obtain ⟨t107, h⟩ := gt_some h
  obtain ⟨m108, hm108, h⟩ := vb_some h
  have t109 : mT m108 (mC m99) = 32 := by rw [hm108]; exact t106
  have t110 : mT m108 a0 = 13 := by rw [hm108]; exact t107
  refine (p_putr (pc := 108) hm108 (by decide +kernel : decode k_R_init.2.1 108 = .ok (.putfield 52, 3)) lp_12_52 t107) ?_
  refine (p_aload_n (pc := 111) (k := 0) (by decide +kernel : decode k_R_init.2.1 111 = .ok (.aload_n 0, 1)) rfl rfl) ?_
  refine (r_bipush (pc := 112) (by decide +kernel : decode k_R_init.2.1 112 = .ok (.bipush (25), 2)) (by decide : _ = (25 : Int32))) ?_
  obtain ⟨g111, h⟩ := gd_some h
  obtain ⟨m112, hm112, h⟩ := vb_some h
  refine (p_newI (pc := 114) hm112 (by decide +kernel : decode k_R_init.2.1 114 = .ok (.newarray .int, 2)) lw_arr_int g111) ?_
  have t115 : mT m112 (mC m108) = 32 := by rw [hm112]; exact up1_eq
  obtain ⟨t116, h⟩ := gt_some h
  obtain ⟨m117, hm117, h⟩ := vb_some h
  have t118 : mT m117 (mC m108) = 32 := by rw [hm117]; exact t115
  have t119 : mT m117 a0 = 13 := by rw [hm117]; exact t116
  refine (p_putr (pc := 116) hm117 (by decide +kernel : decode k_R_init.2.1 116 = .ok (.putfield 55, 3)) lp_12_55 t116) ?_
  refine (p_aload_n (pc := 119) (k := 0) (by decide +kernel : decode k_R_init.2.1 119 = .ok (.aload_n 0, 1)) rfl rfl) ?_
  refine (r_bipush (pc := 120) (by decide +kernel : decode k_R_init.2.1 120 = .ok (.bipush (25), 2)) (by decide : _ = (25 : Int32))) ?_
  obtain ⟨g120, h⟩ := gd_some h
  obtain ⟨m121, hm121, h⟩ := vb_some h
  refine (p_newI (pc := 122) hm121 (by decide +kernel : decode k_R_init.2.1 122 = .ok (.newarray .int, 2)) lw_arr_int g120) ?_
  have t124 : mT m121 (mC m117) = 32 := by rw [hm121]; exact up1_eq
  obtain ⟨t125, h⟩ := gt_some h
  obtain ⟨m126, hm126, h⟩ := vb_some h
  have t127 : mT m126 (mC m117) = 32 := by rw [hm126]; exact t124
  have t128 : mT m126 a0 = 13 := by rw [hm126]; exact t125
  refine (p_putr (pc := 124) hm126 (by decide +kernel : decode k_R_init.2.1 124 = .ok (.putfield 58, 3)) lp_12_58 t125) ?_
  refine (p_aload_n (pc := 127) (k := 0) (by decide +kernel : decode k_R_init.2.1 127 = .ok (.aload_n 0, 1)) rfl rfl) ?_
  refine (r_sipush (pc := 128) (by decide +kernel : decode k_R_init.2.1 128 = .ok (.sipush (750), 3)) (by decide : _ = (750 : Int32))) ?_
  obtain ⟨g129, h⟩ := gd_some h
  obtain ⟨m130, hm130, h⟩ := vb_some h
  refine (p_newI (pc := 131) hm130 (by decide +kernel : decode k_R_init.2.1 131 = .ok (.newarray .int, 2)) lw_arr_int g129) ?_
  have t133 : mT m130 (mC m126) = 32 := by rw [hm130]; exact up1_eq
  obtain ⟨t134, h⟩ := gt_some h
  obtain ⟨m135, hm135, h⟩ := vb_some h
  have t136 : mT m135 (mC m126) = 32 := by rw [hm135]; exact t133
  have t137 : mT m135 a0 = 13 := by rw [hm135]; exact t134
  refine (p_putr (pc := 133) hm135 (by decide +kernel : decode k_R_init.2.1 133 = .ok (.putfield 61, 3)) lp_12_61 t134) ?_
  refine (p_aload_n (pc := 136) (k := 0) (by decide +kernel : decode k_R_init.2.1 136 = .ok (.aload_n 0, 1)) rfl rfl) ?_
  refine (r_sipush (pc := 137) (by decide +kernel : decode k_R_init.2.1 137 = .ok (.sipush (750), 3)) (by decide : _ = (750 : Int32))) ?_
  obtain ⟨g138, h⟩ := gd_some h
  obtain ⟨m139, hm139, h⟩ := vb_some h
  refine (p_newI (pc := 140) hm139 (by decide +kernel : decode k_R_init.2.1 140 = .ok (.newarray .int, 2)) lw_arr_int g138) ?_
  have t142 : mT m139 (mC m135) = 32 := by rw [hm139]; exact up1_eq
  obtain ⟨t143, h⟩ := gt_some h
  obtain ⟨m144, hm144, h⟩ := vb_some h
  have t145 : mT m144 (mC m135) = 32 := by rw [hm144]; exact t142
  have t146 : mT m144 a0 = 13 := by rw [hm144]; exact t143
  refine (p_putr (pc := 142) hm144 (by decide +kernel : decode k_R_init.2.1 142 = .ok (.putfield 64, 3)) lp_12_64 t143) ?_
  refine (p_aload_n (pc := 145) (k := 0) (by decide +kernel : decode k_R_init.2.1 145 = .ok (.aload_n 0, 1)) rfl rfl) ?_
  refine (r_sipush (pc := 146) (by decide +kernel : decode k_R_init.2.1 146 = .ok (.sipush (750), 3)) (by decide : _ = (750 : Int32))) ?_
  obtain ⟨g147, h⟩ := gd_some h
  obtain ⟨m148, hm148, h⟩ := vb_some h
  refine (p_newI (pc := 149) hm148 (by decide +kernel : decode k_R_init.2.1 149 = .ok (.newarray .int, 2)) lw_arr_int g147) ?_
  have t151 : mT m148 (mC m144) = 32 := by rw [hm148]; exact up1_eq
  obtain ⟨t152, h⟩ := gt_some h
  obtain ⟨m153, hm153, h⟩ := vb_some h
  have t154 : mT m153 (mC m144) = 32 := by rw [hm153]; exact t151
  have t155 : mT m153 a0 = 13 := by rw [hm153]; exact t152
  refine (p_putr (pc := 151) hm153 (by decide +kernel : decode k_R_init.2.1 151 = .ok (.putfield 67, 3)) lp_12_67 t152) ?_
  refine (p_aload_n (pc := 154) (k := 0) (by decide +kernel : decode k_R_init.2.1 154 = .ok (.aload_n 0, 1)) rfl rfl) ?_
  refine (r_sipush (pc := 155) (by decide +kernel : decode k_R_init.2.1 155 = .ok (.sipush (750), 3)) (by decide : _ = (750 : Int32))) ?_
  obtain ⟨g156, h⟩ := gd_some h
  obtain ⟨m157, hm157, h⟩ := vb_some h
  refine (p_newZ (pc := 158) hm157 (by decide +kernel : decode k_R_init.2.1 158 = .ok (.newarray .boolean, 2)) lw_arr_boolean g156) ?_
  have t160 : mT m157 (mC m153) = 34 := by rw [hm157]; exact up1_eq
  obtain ⟨t161, h⟩ := gt_some h
  obtain ⟨m162, hm162, h⟩ := vb_some h
  have t163 : mT m162 (mC m153) = 34 := by rw [hm162]; exact t160
  have t164 : mT m162 a0 = 13 := by rw [hm162]; exact t161
  refine (p_putr (pc := 160) hm162 (by decide +kernel : decode k_R_init.2.1 160 = .ok (.putfield 70, 3)) lp_12_70 t161) ?_
  refine (p_aload_n (pc := 163) (k := 0) (by decide +kernel : decode k_R_init.2.1 163 = .ok (.aload_n 0, 1)) rfl rfl) ?_
  refine (r_sipush (pc := 164) (by decide +kernel : decode k_R_init.2.1 164 = .ok (.sipush (750), 3)) (by decide : _ = (750 : Int32))) ?_
  obtain ⟨g165, h⟩ := gd_some h
  obtain ⟨m166, hm166, h⟩ := vb_some h
  refine (p_newI (pc := 167) hm166 (by decide +kernel : decode k_R_init.2.1 167 = .ok (.newarray .int, 2)) lw_arr_int g165) ?_
  have t169 : mT m166 (mC m162) = 32 := by rw [hm166]; exact up1_eq
  obtain ⟨t170, h⟩ := gt_some h
  obtain ⟨m171, hm171, h⟩ := vb_some h
  have t172 : mT m171 (mC m162) = 32 := by rw [hm171]; exact t169
  have t173 : mT m171 a0 = 13 := by rw [hm171]; exact t170
  refine (p_putr (pc := 169) hm171 (by decide +kernel : decode k_R_init.2.1 169 = .ok (.putfield 74, 3)) lp_12_74 t170) ?_
  refine (p_aload_n (pc := 172) (k := 0) (by decide +kernel : decode k_R_init.2.1 172 = .ok (.aload_n 0, 1)) rfl rfl) ?_
  refine (r_sipush (pc := 173) (by decide +kernel : decode k_R_init.2.1 173 = .ok (.sipush (750), 3)) (by decide : _ = (750 : Int32))) ?_
  obtain ⟨g174, h⟩ := gd_some h
  obtain ⟨m175, hm175, h⟩ := vb_some h
  refine (p_newI (pc := 176) hm175 (by decide +kernel : decode k_R_init.2.1 176 = .ok (.newarray .int, 2)) lw_arr_int g174) ?_
  have t178 : mT m175 (mC m171) = 32 := by rw [hm175]; exact up1_eq
  obtain ⟨t179, h⟩ := gt_some h
  obtain ⟨m180, hm180, h⟩ := vb_some h
  have t181 : mT m180 (mC m171) = 32 := by rw [hm180]; exact t178
  have t182 : mT m180 a0 = 13 := by rw [hm180]; exact t179
  refine (p_putr (pc := 178) hm180 (by decide +kernel : decode k_R_init.2.1 178 = .ok (.putfield 77, 3)) lp_12_77 t179) ?_
  refine (p_aload_n (pc := 181) (k := 0) (by decide +kernel : decode k_R_init.2.1 181 = .ok (.aload_n 0, 1)) rfl rfl) ?_
  refine (r_sipush (pc := 182) (by decide +kernel : decode k_R_init.2.1 182 = .ok (.sipush (750), 3)) (by decide : _ = (750 : Int32))) ?_
  obtain ⟨g183, h⟩ := gd_some h
  obtain ⟨m184, hm184, h⟩ := vb_some h
  refine (p_newI (pc := 185) hm184 (by decide +kernel : decode k_R_init.2.1 185 = .ok (.newarray .int, 2)) lw_arr_int g183) ?_
  have t187 : mT m184 (mC m180) = 32 := by rw [hm184]; exact up1_eq
  obtain ⟨t188, h⟩ := gt_some h
  obtain ⟨m189, hm189, h⟩ := vb_some h
  have t190 : mT m189 (mC m180) = 32 := by rw [hm189]; exact t187
  have t191 : mT m189 a0 = 13 := by rw [hm189]; exact t188
  refine (p_putr (pc := 187) hm189 (by decide +kernel : decode k_R_init.2.1 187 = .ok (.putfield 80, 3)) lp_12_80 t188) ?_
  refine (p_aload_n (pc := 190) (k := 0) (by decide +kernel : decode k_R_init.2.1 190 = .ok (.aload_n 0, 1)) rfl rfl) ?_
  refine (r_sipush (pc := 191) (by decide +kernel : decode k_R_init.2.1 191 = .ok (.sipush (750), 3)) (by decide : _ = (750 : Int32))) ?_
  obtain ⟨g192, h⟩ := gd_some h
  obtain ⟨m193, hm193, h⟩ := vb_some h
  refine (p_newI (pc := 194) hm193 (by decide +kernel : decode k_R_init.2.1 194 = .ok (.newarray .int, 2)) lw_arr_int g192) ?_
  have t196 : mT m193 (mC m189) = 32 := by rw [hm193]; exact up1_eq
  obtain ⟨t197, h⟩ := gt_some h
  obtain ⟨m198, hm198, h⟩ := vb_some h
  have t199 : mT m198 (mC m189) = 32 := by rw [hm198]; exact t196
  have t200 : mT m198 a0 = 13 := by rw [hm198]; exact t197
  refine (p_putr (pc := 196) hm198 (by decide +kernel : decode k_R_init.2.1 196 = .ok (.putfield 83, 3)) lp_12_83 t197) ?_
  refine (p_aload_n (pc := 199) (k := 0) (by decide +kernel : decode k_R_init.2.1 199 = .ok (.aload_n 0, 1)) rfl rfl) ?_
  refine (r_sipush (pc := 200) (by decide +kernel : decode k_R_init.2.1 200 = .ok (.sipush (750), 3)) (by decide : _ = (750 : Int32))) ?_
  obtain ⟨g201, h⟩ := gd_some h
  obtain ⟨m202, hm202, h⟩ := vb_some h
  refine (p_newI (pc := 203) hm202 (by decide +kernel : decode k_R_init.2.1 203 = .ok (.newarray .int, 2)) lw_arr_int g201) ?_
  have t205 : mT m202 (mC m198) = 32 := by rw [hm202]; exact up1_eq
  obtain ⟨t206, h⟩ := gt_some h
  obtain ⟨m207, hm207, h⟩ := vb_some h
  have t208 : mT m207 (mC m198) = 32 := by rw [hm207]; exact t205
  have t209 : mT m207 a0 = 13 := by rw [hm207]; exact t206
  refine (p_putr (pc := 205) hm207 (by decide +kernel : decode k_R_init.2.1 205 = .ok (.putfield 86, 3)) lp_12_86 t206) ?_
  refine (p_aload_n (pc := 208) (k := 0) (by decide +kernel : decode k_R_init.2.1 208 = .ok (.aload_n 0, 1)) rfl rfl) ?_
  refine (r_sipush (pc := 209) (by decide +kernel : decode k_R_init.2.1 209 = .ok (.sipush (750), 3)) (by decide : _ = (750 : Int32))) ?_
  obtain ⟨g210, h⟩ := gd_some h
  obtain ⟨m211, hm211, h⟩ := vb_some h
  refine (p_newI (pc := 212) hm211 (by decide +kernel : decode k_R_init.2.1 212 = .ok (.newarray .int, 2)) lw_arr_int g210) ?_
  have t214 : mT m211 (mC m207) = 32 := by rw [hm211]; exact up1_eq
  obtain ⟨t215, h⟩ := gt_some h
  obtain ⟨m216, hm216, h⟩ := vb_some h
  have t217 : mT m216 (mC m207) = 32 := by rw [hm216]; exact t214
  have t218 : mT m216 a0 = 13 := by rw [hm216]; exact t215
  refine (p_putr (pc := 214) hm216 (by decide +kernel : decode k_R_init.2.1 214 = .ok (.putfield 89, 3)) lp_12_89 t215) ?_
  refine (p_aload_n (pc := 217) (k := 0) (by decide +kernel : decode k_R_init.2.1 217 = .ok (.aload_n 0, 1)) rfl rfl) ?_
  refine (r_sipush (pc := 218) (by decide +kernel : decode k_R_init.2.1 218 = .ok (.sipush (750), 3)) (by decide : _ = (750 : Int32))) ?_
  obtain ⟨g219, h⟩ := gd_some h
  obtain ⟨m220, hm220, h⟩ := vb_some h
  refine (p_newI (pc := 221) hm220 (by decide +kernel : decode k_R_init.2.1 221 = .ok (.newarray .int, 2)) lw_arr_int g219) ?_
  have t223 : mT m220 (mC m216) = 32 := by rw [hm220]; exact up1_eq
  obtain ⟨t224, h⟩ := gt_some h
  obtain ⟨m225, hm225, h⟩ := vb_some h
  have t226 : mT m225 (mC m216) = 32 := by rw [hm225]; exact t223
  have t227 : mT m225 a0 = 13 := by rw [hm225]; exact t224
  refine (p_putr (pc := 223) hm225 (by decide +kernel : decode k_R_init.2.1 223 = .ok (.putfield 92, 3)) lp_12_92 t224) ?_
  refine (p_aload_n (pc := 226) (k := 0) (by decide +kernel : decode k_R_init.2.1 226 = .ok (.aload_n 0, 1)) rfl rfl) ?_
  refine (r_sipush (pc := 227) (by decide +kernel : decode k_R_init.2.1 227 = .ok (.sipush (3000), 3)) (by decide : _ = (3000 : Int32))) ?_
  obtain ⟨g228, h⟩ := gd_some h
  obtain ⟨m229, hm229, h⟩ := vb_some h
  refine (p_newI (pc := 230) hm229 (by decide +kernel : decode k_R_init.2.1 230 = .ok (.newarray .int, 2)) lw_arr_int g228) ?_
  have t232 : mT m229 (mC m225) = 32 := by rw [hm229]; exact up1_eq
  obtain ⟨t233, h⟩ := gt_some h
  obtain ⟨m234, hm234, h⟩ := vb_some h
  have t235 : mT m234 (mC m225) = 32 := by rw [hm234]; exact t232
  have t236 : mT m234 a0 = 13 := by rw [hm234]; exact t233
  refine (p_putr (pc := 232) hm234 (by decide +kernel : decode k_R_init.2.1 232 = .ok (.putfield 95, 3)) lp_12_95 t233) ?_
  refine (p_aload_n (pc := 235) (k := 0) (by decide +kernel : decode k_R_init.2.1 235 = .ok (.aload_n 0, 1)) rfl rfl) ?_
  refine (r_sipush (pc := 236) (by decide +kernel : decode k_R_init.2.1 236 = .ok (.sipush (5000), 3)) (by decide : _ = (5000 : Int32))) ?_
  obtain ⟨g237, h⟩ := gd_some h
  obtain ⟨m238, hm238, h⟩ := vb_some h
  refine (p_newI (pc := 239) hm238 (by decide +kernel : decode k_R_init.2.1 239 = .ok (.newarray .int, 2)) lw_arr_int g237) ?_
  have t241 : mT m238 (mC m234) = 32 := by rw [hm238]; exact up1_eq
  obtain ⟨t242, h⟩ := gt_some h
  obtain ⟨m243, hm243, h⟩ := vb_some h
  have t244 : mT m243 (mC m234) = 32 := by rw [hm243]; exact t241
  have t245 : mT m243 a0 = 13 := by rw [hm243]; exact t242
  refine (p_putr (pc := 241) hm243 (by decide +kernel : decode k_R_init.2.1 241 = .ok (.putfield 98, 3)) lp_12_98 t242) ?_
  refine (p_aload_n (pc := 244) (k := 0) (by decide +kernel : decode k_R_init.2.1 244 = .ok (.aload_n 0, 1)) rfl rfl) ?_
  refine (r_sipush (pc := 245) (by decide +kernel : decode k_R_init.2.1 245 = .ok (.sipush (5000), 3)) (by decide : _ = (5000 : Int32))) ?_
  obtain ⟨g246, h⟩ := gd_some h
  obtain ⟨m247, hm247, h⟩ := vb_some h
  refine (p_newZ (pc := 248) hm247 (by decide +kernel : decode k_R_init.2.1 248 = .ok (.newarray .boolean, 2)) lw_arr_boolean g246) ?_
  have t250 : mT m247 (mC m243) = 34 := by rw [hm247]; exact up1_eq
  obtain ⟨t251, h⟩ := gt_some h
  obtain ⟨m252, hm252, h⟩ := vb_some h
  have t253 : mT m252 (mC m243) = 34 := by rw [hm252]; exact t250
  have t254 : mT m252 a0 = 13 := by rw [hm252]; exact t251
  refine (p_putr (pc := 250) hm252 (by decide +kernel : decode k_R_init.2.1 250 = .ok (.putfield 101, 3)) lp_12_101 t251) ?_
  refine (p_aload_n (pc := 253) (k := 0) (by decide +kernel : decode k_R_init.2.1 253 = .ok (.aload_n 0, 1)) rfl rfl) ?_
  refine (r_sipush (pc := 254) (by decide +kernel : decode k_R_init.2.1 254 = .ok (.sipush (5000), 3)) (by decide : _ = (5000 : Int32))) ?_
  obtain ⟨g255, h⟩ := gd_some h
  obtain ⟨m256, hm256, h⟩ := vb_some h
  refine (p_newZ (pc := 257) hm256 (by decide +kernel : decode k_R_init.2.1 257 = .ok (.newarray .boolean, 2)) lw_arr_boolean g255) ?_
  have t259 : mT m256 (mC m252) = 34 := by rw [hm256]; exact up1_eq
  obtain ⟨t260, h⟩ := gt_some h
  obtain ⟨m261, hm261, h⟩ := vb_some h
  have t262 : mT m261 (mC m252) = 34 := by rw [hm261]; exact t259
  have t263 : mT m261 a0 = 13 := by rw [hm261]; exact t260
  refine (p_putr (pc := 259) hm261 (by decide +kernel : decode k_R_init.2.1 259 = .ok (.putfield 104, 3)) lp_12_104 t260) ?_
  refine (p_aload_n (pc := 262) (k := 0) (by decide +kernel : decode k_R_init.2.1 262 = .ok (.aload_n 0, 1)) rfl rfl) ?_
  refine (r_sipush (pc := 263) (by decide +kernel : decode k_R_init.2.1 263 = .ok (.sipush (5000), 3)) (by decide : _ = (5000 : Int32))) ?_
  obtain ⟨g264, h⟩ := gd_some h
  obtain ⟨m265, hm265, h⟩ := vb_some h
  refine (p_newI (pc := 266) hm265 (by decide +kernel : decode k_R_init.2.1 266 = .ok (.newarray .int, 2)) lw_arr_int g264) ?_
  have t268 : mT m265 (mC m261) = 32 := by rw [hm265]; exact up1_eq
  obtain ⟨t269, h⟩ := gt_some h
  obtain ⟨m270, hm270, h⟩ := vb_some h
  have t271 : mT m270 (mC m261) = 32 := by rw [hm270]; exact t268
  have t272 : mT m270 a0 = 13 := by rw [hm270]; exact t269
  refine (p_putr (pc := 268) hm270 (by decide +kernel : decode k_R_init.2.1 268 = .ok (.putfield 107, 3)) lp_12_107 t269) ?_
  refine (p_aload_n (pc := 271) (k := 0) (by decide +kernel : decode k_R_init.2.1 271 = .ok (.aload_n 0, 1)) rfl rfl) ?_
  refine (r_sipush (pc := 272) (by decide +kernel : decode k_R_init.2.1 272 = .ok (.sipush (5000), 3)) (by decide : _ = (5000 : Int32))) ?_
  obtain ⟨g273, h⟩ := gd_some h
  obtain ⟨m274, hm274, h⟩ := vb_some h
  refine (p_newI (pc := 275) hm274 (by decide +kernel : decode k_R_init.2.1 275 = .ok (.newarray .int, 2)) lw_arr_int g273) ?_
  have t277 : mT m274 (mC m270) = 32 := by rw [hm274]; exact up1_eq
  obtain ⟨t278, h⟩ := gt_some h
  obtain ⟨m279, hm279, h⟩ := vb_some h
  have t280 : mT m279 (mC m270) = 32 := by rw [hm279]; exact t277
  have t281 : mT m279 a0 = 13 := by rw [hm279]; exact t278
  refine (p_putr (pc := 277) hm279 (by decide +kernel : decode k_R_init.2.1 277 = .ok (.putfield 110, 3)) lp_12_110 t278) ?_
  refine (p_aload_n (pc := 280) (k := 0) (by decide +kernel : decode k_R_init.2.1 280 = .ok (.aload_n 0, 1)) rfl rfl) ?_
  refine (r_sipush (pc := 281) (by decide +kernel : decode k_R_init.2.1 281 = .ok (.sipush (5000), 3)) (by decide : _ = (5000 : Int32))) ?_
  obtain ⟨g282, h⟩ := gd_some h
  obtain ⟨m283, hm283, h⟩ := vb_some h
  refine (p_newI (pc := 284) hm283 (by decide +kernel : decode k_R_init.2.1 284 = .ok (.newarray .int, 2)) lw_arr_int g282) ?_
  have t286 : mT m283 (mC m279) = 32 := by rw [hm283]; exact up1_eq
  obtain ⟨t287, h⟩ := gt_some h
  obtain ⟨m288, hm288, h⟩ := vb_some h
  have t289 : mT m288 (mC m279) = 32 := by rw [hm288]; exact t286
  have t290 : mT m288 a0 = 13 := by rw [hm288]; exact t287
  refine (p_putr (pc := 286) hm288 (by decide +kernel : decode k_R_init.2.1 286 = .ok (.putfield 113, 3)) lp_12_113 t287) ?_
  refine (p_aload_n (pc := 289) (k := 0) (by decide +kernel : decode k_R_init.2.1 289 = .ok (.aload_n 0, 1)) rfl rfl) ?_
  refine (r_sipush (pc := 290) (by decide +kernel : decode k_R_init.2.1 290 = .ok (.sipush (12500), 3)) (by decide : _ = (12500 : Int32))) ?_
  obtain ⟨g291, h⟩ := gd_some h
  obtain ⟨m292, hm292, h⟩ := vb_some h
  refine (p_newI (pc := 293) hm292 (by decide +kernel : decode k_R_init.2.1 293 = .ok (.newarray .int, 2)) lw_arr_int g291) ?_
  have t295 : mT m292 (mC m288) = 32 := by rw [hm292]; exact up1_eq
  obtain ⟨t296, h⟩ := gt_some h
  obtain ⟨m297, hm297, h⟩ := vb_some h
  have t298 : mT m297 (mC m288) = 32 := by rw [hm297]; exact t295
  have t299 : mT m297 a0 = 13 := by rw [hm297]; exact t296
  refine (p_putr (pc := 295) hm297 (by decide +kernel : decode k_R_init.2.1 295 = .ok (.putfield 116, 3)) lp_12_116 t296) ?_
  refine (p_aload_n (pc := 298) (k := 0) (by decide +kernel : decode k_R_init.2.1 298 = .ok (.aload_n 0, 1)) rfl rfl) ?_
  refine (r_sipush (pc := 299) (by decide +kernel : decode k_R_init.2.1 299 = .ok (.sipush (12500), 3)) (by decide : _ = (12500 : Int32))) ?_
  obtain ⟨g300, h⟩ := gd_some h
  obtain ⟨m301, hm301, h⟩ := vb_some h
  refine (p_newI (pc := 302) hm301 (by decide +kernel : decode k_R_init.2.1 302 = .ok (.newarray .int, 2)) lw_arr_int g300) ?_
  have t304 : mT m301 (mC m297) = 32 := by rw [hm301]; exact up1_eq
  obtain ⟨t305, h⟩ := gt_some h
  obtain ⟨m306, hm306, h⟩ := vb_some h
  have t307 : mT m306 (mC m297) = 32 := by rw [hm306]; exact t304
  have t308 : mT m306 a0 = 13 := by rw [hm306]; exact t305
  refine (p_putr (pc := 304) hm306 (by decide +kernel : decode k_R_init.2.1 304 = .ok (.putfield 119, 3)) lp_12_119 t305) ?_
  refine (p_aload_n (pc := 307) (k := 0) (by decide +kernel : decode k_R_init.2.1 307 = .ok (.aload_n 0, 1)) rfl rfl) ?_
  refine (r_sipush (pc := 308) (by decide +kernel : decode k_R_init.2.1 308 = .ok (.sipush (600), 3)) (by decide : _ = (600 : Int32))) ?_
  obtain ⟨g309, h⟩ := gd_some h
  obtain ⟨m310, hm310, h⟩ := vb_some h
  refine (p_newL (pc := 311) hm310 (by decide +kernel : decode k_R_init.2.1 311 = .ok (.newarray .long, 2)) lw_arr_long g309) ?_
  have t313 : mT m310 (mC m306) = 35 := by rw [hm310]; exact up1_eq
  obtain ⟨t314, h⟩ := gt_some h
  obtain ⟨m315, hm315, h⟩ := vb_some h
  have t316 : mT m315 (mC m306) = 35 := by rw [hm315]; exact t313
  have t317 : mT m315 a0 = 13 := by rw [hm315]; exact t314
  refine (p_putr (pc := 313) hm315 (by decide +kernel : decode k_R_init.2.1 313 = .ok (.putfield 122, 3)) lp_12_122 t314) ?_
  refine (p_aload_n (pc := 316) (k := 0) (by decide +kernel : decode k_R_init.2.1 316 = .ok (.aload_n 0, 1)) rfl rfl) ?_
  refine (r_bipush (pc := 317) (by decide +kernel : decode k_R_init.2.1 317 = .ok (.bipush (64), 2)) (by decide : _ = (64 : Int32))) ?_
  obtain ⟨g318, h⟩ := gd_some h
  obtain ⟨m319, hm319, h⟩ := vb_some h
  refine (p_newI (pc := 319) hm319 (by decide +kernel : decode k_R_init.2.1 319 = .ok (.newarray .int, 2)) lw_arr_int g318) ?_
  have t322 : mT m319 (mC m315) = 32 := by rw [hm319]; exact up1_eq
  obtain ⟨t323, h⟩ := gt_some h
  obtain ⟨m324, hm324, h⟩ := vb_some h
  have t325 : mT m324 (mC m315) = 32 := by rw [hm324]; exact t322
  have t326 : mT m324 a0 = 13 := by rw [hm324]; exact t323
  refine (p_putr (pc := 321) hm324 (by decide +kernel : decode k_R_init.2.1 321 = .ok (.putfield 125, 3)) lp_12_125 t323) ?_
  refine (p_aload_n (pc := 324) (k := 0) (by decide +kernel : decode k_R_init.2.1 324 = .ok (.aload_n 0, 1)) rfl rfl) ?_
  refine (r_bipush (pc := 325) (by decide +kernel : decode k_R_init.2.1 325 = .ok (.bipush (8), 2)) (by decide : _ = (8 : Int32))) ?_
  obtain ⟨g327, h⟩ := gd_some h
  obtain ⟨m328, hm328, h⟩ := vb_some h
  refine (p_newI (pc := 327) hm328 (by decide +kernel : decode k_R_init.2.1 327 = .ok (.newarray .int, 2)) lw_arr_int g327) ?_
  have t331 : mT m328 (mC m324) = 32 := by rw [hm328]; exact up1_eq
  obtain ⟨t332, h⟩ := gt_some h
  obtain ⟨m333, hm333, h⟩ := vb_some h
  have t334 : mT m333 (mC m324) = 32 := by rw [hm333]; exact t331
  have t335 : mT m333 a0 = 13 := by rw [hm333]; exact t332
  refine (p_putr (pc := 329) hm333 (by decide +kernel : decode k_R_init.2.1 329 = .ok (.putfield 128, 3)) lp_12_128 t332) ?_
  refine (p_aload_n (pc := 332) (k := 0) (by decide +kernel : decode k_R_init.2.1 332 = .ok (.aload_n 0, 1)) rfl rfl) ?_
  refine (r_bipush (pc := 333) (by decide +kernel : decode k_R_init.2.1 333 = .ok (.bipush (8), 2)) (by decide : _ = (8 : Int32))) ?_
  obtain ⟨g336, h⟩ := gd_some h
  obtain ⟨m337, hm337, h⟩ := vb_some h
  refine (p_newI (pc := 335) hm337 (by decide +kernel : decode k_R_init.2.1 335 = .ok (.newarray .int, 2)) lw_arr_int g336) ?_
  have t340 : mT m337 (mC m333) = 32 := by rw [hm337]; exact up1_eq
  obtain ⟨t341, h⟩ := gt_some h
  obtain ⟨m342, hm342, h⟩ := vb_some h
  have t343 : mT m342 (mC m333) = 32 := by rw [hm342]; exact t340
  have t344 : mT m342 a0 = 13 := by rw [hm342]; exact t341
  refine (p_putr (pc := 337) hm342 (by decide +kernel : decode k_R_init.2.1 337 = .ok (.putfield 131, 3)) lp_12_131 t341) ?_
  refine (p_aload_n (pc := 340) (k := 0) (by decide +kernel : decode k_R_init.2.1 340 = .ok (.aload_n 0, 1)) rfl rfl) ?_
  refine (r_bipush (pc := 341) (by decide +kernel : decode k_R_init.2.1 341 = .ok (.bipush (10), 2)) (by decide : _ = (10 : Int32))) ?_
  obtain ⟨g345, h⟩ := gd_some h
  obtain ⟨m346, hm346, h⟩ := vb_some h
  refine (p_newI (pc := 343) hm346 (by decide +kernel : decode k_R_init.2.1 343 = .ok (.newarray .int, 2)) lw_arr_int g345) ?_
  have t349 : mT m346 (mC m342) = 32 := by rw [hm346]; exact up1_eq
  obtain ⟨t350, h⟩ := gt_some h
  obtain ⟨m351, hm351, h⟩ := vb_some h
  have t352 : mT m351 (mC m342) = 32 := by rw [hm351]; exact t349
  have t353 : mT m351 a0 = 13 := by rw [hm351]; exact t350
  refine (p_putr (pc := 345) hm351 (by decide +kernel : decode k_R_init.2.1 345 = .ok (.putfield 134, 3)) lp_12_134 t350) ?_
  refine (p_aload_n (pc := 348) (k := 0) (by decide +kernel : decode k_R_init.2.1 348 = .ok (.aload_n 0, 1)) rfl rfl) ?_
  refine (r_bipush (pc := 349) (by decide +kernel : decode k_R_init.2.1 349 = .ok (.bipush (10), 2)) (by decide : _ = (10 : Int32))) ?_
  obtain ⟨g354, h⟩ := gd_some h
  obtain ⟨m355, hm355, h⟩ := vb_some h
  refine (p_newI (pc := 351) hm355 (by decide +kernel : decode k_R_init.2.1 351 = .ok (.newarray .int, 2)) lw_arr_int g354) ?_
  have t358 : mT m355 (mC m351) = 32 := by rw [hm355]; exact up1_eq
  obtain ⟨t359, h⟩ := gt_some h
  obtain ⟨m360, hm360, h⟩ := vb_some h
  have t361 : mT m360 (mC m351) = 32 := by rw [hm360]; exact t358
  have t362 : mT m360 a0 = 13 := by rw [hm360]; exact t359
  refine (p_putr (pc := 353) hm360 (by decide +kernel : decode k_R_init.2.1 353 = .ok (.putfield 137, 3)) lp_12_137 t359) ?_
  refine (p_aload_n (pc := 356) (k := 0) (by decide +kernel : decode k_R_init.2.1 356 = .ok (.aload_n 0, 1)) rfl rfl) ?_
  refine (r_bipush (pc := 357) (by decide +kernel : decode k_R_init.2.1 357 = .ok (.bipush (10), 2)) (by decide : _ = (10 : Int32))) ?_
  obtain ⟨g363, h⟩ := gd_some h
  obtain ⟨m364, hm364, h⟩ := vb_some h
  refine (p_newI (pc := 359) hm364 (by decide +kernel : decode k_R_init.2.1 359 = .ok (.newarray .int, 2)) lw_arr_int g363) ?_
  have t367 : mT m364 (mC m360) = 32 := by rw [hm364]; exact up1_eq
  obtain ⟨t368, h⟩ := gt_some h
  obtain ⟨m369, hm369, h⟩ := vb_some h
  have t370 : mT m369 (mC m360) = 32 := by rw [hm369]; exact t367
  have t371 : mT m369 a0 = 13 := by rw [hm369]; exact t368
  refine (p_putr (pc := 361) hm369 (by decide +kernel : decode k_R_init.2.1 361 = .ok (.putfield 140, 3)) lp_12_140 t368) ?_
  refine (p_aload_n (pc := 364) (k := 0) (by decide +kernel : decode k_R_init.2.1 364 = .ok (.aload_n 0, 1)) rfl rfl) ?_
  refine (r_bipush (pc := 365) (by decide +kernel : decode k_R_init.2.1 365 = .ok (.bipush (16), 2)) (by decide : _ = (16 : Int32))) ?_
  obtain ⟨g372, h⟩ := gd_some h
  obtain ⟨m373, hm373, h⟩ := vb_some h
  refine (p_newI (pc := 367) hm373 (by decide +kernel : decode k_R_init.2.1 367 = .ok (.newarray .int, 2)) lw_arr_int g372) ?_
  have t376 : mT m373 (mC m369) = 32 := by rw [hm373]; exact up1_eq
  obtain ⟨t377, h⟩ := gt_some h
  obtain ⟨m378, hm378, h⟩ := vb_some h
  have t379 : mT m378 (mC m369) = 32 := by rw [hm378]; exact t376
  have t380 : mT m378 a0 = 13 := by rw [hm378]; exact t377
  refine (p_putr (pc := 369) hm378 (by decide +kernel : decode k_R_init.2.1 369 = .ok (.putfield 143, 3)) lp_12_143 t377) ?_
  refine (p_aload_n (pc := 372) (k := 0) (by decide +kernel : decode k_R_init.2.1 372 = .ok (.aload_n 0, 1)) rfl rfl) ?_
  refine (r_iconst (pc := 373) (by decide +kernel : decode k_R_init.2.1 373 = .ok (.iconst 4, 1)) ic_4) ?_
  obtain ⟨g381, h⟩ := gd_some h
  obtain ⟨m382, hm382, h⟩ := vb_some h
  refine (p_newI (pc := 374) hm382 (by decide +kernel : decode k_R_init.2.1 374 = .ok (.newarray .int, 2)) lw_arr_int g381) ?_
  have t385 : mT m382 (mC m378) = 32 := by rw [hm382]; exact up1_eq
  obtain ⟨t386, h⟩ := gt_some h
  obtain ⟨m387, hm387, h⟩ := vb_some h
  have t388 : mT m387 (mC m378) = 32 := by rw [hm387]; exact t385
  have t389 : mT m387 a0 = 13 := by rw [hm387]; exact t386
  refine (p_putr (pc := 376) hm387 (by decide +kernel : decode k_R_init.2.1 376 = .ok (.putfield 146, 3)) lp_12_146 t386) ?_
  refine (p_aload_n (pc := 379) (k := 0) (by decide +kernel : decode k_R_init.2.1 379 = .ok (.aload_n 0, 1)) rfl rfl) ?_
  refine (r_sipush (pc := 380) (by decide +kernel : decode k_R_init.2.1 380 = .ok (.sipush (160), 3)) (by decide : _ = (160 : Int32))) ?_
  obtain ⟨g390, h⟩ := gd_some h
  obtain ⟨m391, hm391, h⟩ := vb_some h
  refine (p_newI (pc := 383) hm391 (by decide +kernel : decode k_R_init.2.1 383 = .ok (.newarray .int, 2)) lw_arr_int g390) ?_
  have t394 : mT m391 (mC m387) = 32 := by rw [hm391]; exact up1_eq
  obtain ⟨t395, h⟩ := gt_some h
  obtain ⟨m396, hm396, h⟩ := vb_some h
  have t397 : mT m396 (mC m387) = 32 := by rw [hm396]; exact t394
  have t398 : mT m396 a0 = 13 := by rw [hm396]; exact t395
  refine (p_putr (pc := 385) hm396 (by decide +kernel : decode k_R_init.2.1 385 = .ok (.putfield 149, 3)) lp_12_149 t395) ?_
  refine (p_aload_n (pc := 388) (k := 0) (by decide +kernel : decode k_R_init.2.1 388 = .ok (.aload_n 0, 1)) rfl rfl) ?_
  refine (r_sipush (pc := 389) (by decide +kernel : decode k_R_init.2.1 389 = .ok (.sipush (160), 3)) (by decide : _ = (160 : Int32))) ?_
  obtain ⟨g399, h⟩ := gd_some h
  obtain ⟨m400, hm400, h⟩ := vb_some h
  refine (p_newI (pc := 392) hm400 (by decide +kernel : decode k_R_init.2.1 392 = .ok (.newarray .int, 2)) lw_arr_int g399) ?_
  have t403 : mT m400 (mC m396) = 32 := by rw [hm400]; exact up1_eq
  obtain ⟨t404, h⟩ := gt_some h
  obtain ⟨m405, hm405, h⟩ := vb_some h
  have t406 : mT m405 (mC m396) = 32 := by rw [hm405]; exact t403
  have t407 : mT m405 a0 = 13 := by rw [hm405]; exact t404
  refine (p_putr (pc := 394) hm405 (by decide +kernel : decode k_R_init.2.1 394 = .ok (.putfield 152, 3)) lp_12_152 t404) ?_
  refine (p_aload_n (pc := 397) (k := 0) (by decide +kernel : decode k_R_init.2.1 397 = .ok (.aload_n 0, 1)) rfl rfl) ?_
  refine (r_sipush (pc := 398) (by decide +kernel : decode k_R_init.2.1 398 = .ok (.sipush (160), 3)) (by decide : _ = (160 : Int32))) ?_
  obtain ⟨g408, h⟩ := gd_some h
  obtain ⟨m409, hm409, h⟩ := vb_some h
  refine (p_newI (pc := 401) hm409 (by decide +kernel : decode k_R_init.2.1 401 = .ok (.newarray .int, 2)) lw_arr_int g408) ?_
  have t412 : mT m409 (mC m405) = 32 := by rw [hm409]; exact up1_eq
  obtain ⟨t413, h⟩ := gt_some h
  obtain ⟨m414, hm414, h⟩ := vb_some h
  have t415 : mT m414 (mC m405) = 32 := by rw [hm414]; exact t412
  have t416 : mT m414 a0 = 13 := by rw [hm414]; exact t413
  refine (p_putr (pc := 403) hm414 (by decide +kernel : decode k_R_init.2.1 403 = .ok (.putfield 155, 3)) lp_12_155 t413) ?_
  refine (p_aload_n (pc := 406) (k := 0) (by decide +kernel : decode k_R_init.2.1 406 = .ok (.aload_n 0, 1)) rfl rfl) ?_
  refine (r_sipush (pc := 407) (by decide +kernel : decode k_R_init.2.1 407 = .ok (.sipush (160), 3)) (by decide : _ = (160 : Int32))) ?_
  obtain ⟨g417, h⟩ := gd_some h
  obtain ⟨m418, hm418, h⟩ := vb_some h
  refine (p_newI (pc := 410) hm418 (by decide +kernel : decode k_R_init.2.1 410 = .ok (.newarray .int, 2)) lw_arr_int g417) ?_
  have t421 : mT m418 (mC m414) = 32 := by rw [hm418]; exact up1_eq
  obtain ⟨t422, h⟩ := gt_some h
  obtain ⟨m423, hm423, h⟩ := vb_some h
  have t424 : mT m423 (mC m414) = 32 := by rw [hm423]; exact t421
  have t425 : mT m423 a0 = 13 := by rw [hm423]; exact t422
  refine (p_putr (pc := 412) hm423 (by decide +kernel : decode k_R_init.2.1 412 = .ok (.putfield 158, 3)) lp_12_158 t422) ?_
  refine (p_aload_n (pc := 415) (k := 0) (by decide +kernel : decode k_R_init.2.1 415 = .ok (.aload_n 0, 1)) rfl rfl) ?_
  refine (r_sipush (pc := 416) (by decide +kernel : decode k_R_init.2.1 416 = .ok (.sipush (160), 3)) (by decide : _ = (160 : Int32))) ?_
  obtain ⟨g426, h⟩ := gd_some h
  obtain ⟨m427, hm427, h⟩ := vb_some h
  refine (p_newI (pc := 419) hm427 (by decide +kernel : decode k_R_init.2.1 419 = .ok (.newarray .int, 2)) lw_arr_int g426) ?_
  have t430 : mT m427 (mC m423) = 32 := by rw [hm427]; exact up1_eq
  obtain ⟨t431, h⟩ := gt_some h
  obtain ⟨m432, hm432, h⟩ := vb_some h
  have t433 : mT m432 (mC m423) = 32 := by rw [hm432]; exact t430
  have t434 : mT m432 a0 = 13 := by rw [hm432]; exact t431
  refine (p_putr (pc := 421) hm432 (by decide +kernel : decode k_R_init.2.1 421 = .ok (.putfield 161, 3)) lp_12_161 t431) ?_
  refine (p_aload_n (pc := 424) (k := 0) (by decide +kernel : decode k_R_init.2.1 424 = .ok (.aload_n 0, 1)) rfl rfl) ?_
  refine (r_sipush (pc := 425) (by decide +kernel : decode k_R_init.2.1 425 = .ok (.sipush (7680), 3)) (by decide : _ = (7680 : Int32))) ?_
  obtain ⟨g435, h⟩ := gd_some h
  obtain ⟨m436, hm436, h⟩ := vb_some h
  refine (p_newI (pc := 428) hm436 (by decide +kernel : decode k_R_init.2.1 428 = .ok (.newarray .int, 2)) lw_arr_int g435) ?_
  have t439 : mT m436 (mC m432) = 32 := by rw [hm436]; exact up1_eq
  obtain ⟨t440, h⟩ := gt_some h
  obtain ⟨m441, hm441, h⟩ := vb_some h
  have t442 : mT m441 (mC m432) = 32 := by rw [hm441]; exact t439
  have t443 : mT m441 a0 = 13 := by rw [hm441]; exact t440
  refine (p_putr (pc := 430) hm441 (by decide +kernel : decode k_R_init.2.1 430 = .ok (.putfield 164, 3)) lp_12_164 t440) ?_
  refine (p_aload_n (pc := 433) (k := 0) (by decide +kernel : decode k_R_init.2.1 433 = .ok (.aload_n 0, 1)) rfl rfl) ?_
  refine (r_bipush (pc := 434) (by decide +kernel : decode k_R_init.2.1 434 = .ok (.bipush (12), 2)) (by decide : _ = (12 : Int32))) ?_
  obtain ⟨g444, h⟩ := gd_some h
  obtain ⟨m445, hm445, h⟩ := vb_some h
  refine (p_newI (pc := 436) hm445 (by decide +kernel : decode k_R_init.2.1 436 = .ok (.newarray .int, 2)) lw_arr_int g444) ?_
  have t448 : mT m445 (mC m441) = 32 := by rw [hm445]; exact up1_eq
  obtain ⟨t449, h⟩ := gt_some h
  obtain ⟨m450, hm450, h⟩ := vb_some h
  have t451 : mT m450 (mC m441) = 32 := by rw [hm450]; exact t448
  have t452 : mT m450 a0 = 13 := by rw [hm450]; exact t449
  refine (p_putr (pc := 438) hm450 (by decide +kernel : decode k_R_init.2.1 438 = .ok (.putfield 167, 3)) lp_12_167 t449) ?_
  refine (p_aload_n (pc := 441) (k := 0) (by decide +kernel : decode k_R_init.2.1 441 = .ok (.aload_n 0, 1)) rfl rfl) ?_
  refine (r_sipush (pc := 442) (by decide +kernel : decode k_R_init.2.1 442 = .ok (.sipush (500), 3)) (by decide : _ = (500 : Int32))) ?_
  obtain ⟨g453, h⟩ := gd_some h
  obtain ⟨m454, hm454, h⟩ := vb_some h
  refine (p_newI (pc := 445) hm454 (by decide +kernel : decode k_R_init.2.1 445 = .ok (.newarray .int, 2)) lw_arr_int g453) ?_
  have t457 : mT m454 (mC m450) = 32 := by rw [hm454]; exact up1_eq
  obtain ⟨t458, h⟩ := gt_some h
  obtain ⟨m459, hm459, h⟩ := vb_some h
  have t460 : mT m459 (mC m450) = 32 := by rw [hm459]; exact t457
  have t461 : mT m459 a0 = 13 := by rw [hm459]; exact t458
  refine (p_putr (pc := 447) hm459 (by decide +kernel : decode k_R_init.2.1 447 = .ok (.putfield 170, 3)) lp_12_170 t458) ?_
  refine (p_aload_n (pc := 450) (k := 0) (by decide +kernel : decode k_R_init.2.1 450 = .ok (.aload_n 0, 1)) rfl rfl) ?_
  refine (r_iconst (pc := 451) (by decide +kernel : decode k_R_init.2.1 451 = .ok (.iconst (-1), 1)) ic_m1) ?_
  obtain ⟨m462, hm462, h⟩ := vb_some h
  have t463 : mT m462 (mC m450) = 32 := by rw [hm462]; exact t460
  have t464 : mT m462 a0 = 13 := by rw [hm462]; exact t461
  refine (p_putI (pc := 452) hm462 (by decide +kernel : decode k_R_init.2.1 452 = .ok (.putfield 173, 3)) lp_12_173 t461) ?_
  refine (p_aload_n (pc := 455) (k := 0) (by decide +kernel : decode k_R_init.2.1 455 = .ok (.aload_n 0, 1)) rfl rfl) ?_
  refine (r_bipush (pc := 456) (by decide +kernel : decode k_R_init.2.1 456 = .ok (.bipush (24), 2)) (by decide : _ = (24 : Int32))) ?_
  obtain ⟨g465, h⟩ := gd_some h
  obtain ⟨m466, hm466, h⟩ := vb_some h
  refine (p_newZ (pc := 458) hm466 (by decide +kernel : decode k_R_init.2.1 458 = .ok (.newarray .boolean, 2)) lw_arr_boolean g465) ?_
  have t469 : mT m466 (mC m462) = 34 := by rw [hm466]; exact up1_eq
  obtain ⟨t470, h⟩ := gt_some h
  obtain ⟨m471, hm471, h⟩ := vb_some h
  have t472 : mT m471 (mC m462) = 34 := by rw [hm471]; exact t469
  have t473 : mT m471 a0 = 13 := by rw [hm471]; exact t470
  refine (p_putr (pc := 460) hm471 (by decide +kernel : decode k_R_init.2.1 460 = .ok (.putfield 176, 3)) lp_12_176 t470) ?_
  refine (p_aload_n (pc := 463) (k := 0) (by decide +kernel : decode k_R_init.2.1 463 = .ok (.aload_n 0, 1)) rfl rfl) ?_
  refine (r_bipush (pc := 464) (by decide +kernel : decode k_R_init.2.1 464 = .ok (.bipush (24), 2)) (by decide : _ = (24 : Int32))) ?_
  obtain ⟨g474, h⟩ := gd_some h
  obtain ⟨m475, hm475, h⟩ := vb_some h
  refine (p_newI (pc := 466) hm475 (by decide +kernel : decode k_R_init.2.1 466 = .ok (.newarray .int, 2)) lw_arr_int g474) ?_
  have t478 : mT m475 (mC m471) = 32 := by rw [hm475]; exact up1_eq
  obtain ⟨t479, h⟩ := gt_some h
  obtain ⟨m480, hm480, h⟩ := vb_some h
  have t481 : mT m480 (mC m471) = 32 := by rw [hm480]; exact t478
  have t482 : mT m480 a0 = 13 := by rw [hm480]; exact t479
  refine (p_putr (pc := 468) hm480 (by decide +kernel : decode k_R_init.2.1 468 = .ok (.putfield 179, 3)) lp_12_179 t479) ?_
  refine (p_aload_n (pc := 471) (k := 0) (by decide +kernel : decode k_R_init.2.1 471 = .ok (.aload_n 0, 1)) rfl rfl) ?_
  refine (r_sipush (pc := 472) (by decide +kernel : decode k_R_init.2.1 472 = .ok (.sipush (1536), 3)) (by decide : _ = (1536 : Int32))) ?_
  obtain ⟨g483, h⟩ := gd_some h
  obtain ⟨m484, hm484, h⟩ := vb_some h
  refine (p_newI (pc := 475) hm484 (by decide +kernel : decode k_R_init.2.1 475 = .ok (.newarray .int, 2)) lw_arr_int g483) ?_
  have t487 : mT m484 (mC m480) = 32 := by rw [hm484]; exact up1_eq
  obtain ⟨t488, h⟩ := gt_some h
  obtain ⟨m489, hm489, h⟩ := vb_some h
  have t490 : mT m489 (mC m480) = 32 := by rw [hm489]; exact t487
  have t491 : mT m489 a0 = 13 := by rw [hm489]; exact t488
  refine (p_putr (pc := 477) hm489 (by decide +kernel : decode k_R_init.2.1 477 = .ok (.putfield 182, 3)) lp_12_182 t488) ?_
  refine (p_aload_n (pc := 480) (k := 0) (by decide +kernel : decode k_R_init.2.1 480 = .ok (.aload_n 0, 1)) rfl rfl) ?_
  refine (r_sipush (pc := 481) (by decide +kernel : decode k_R_init.2.1 481 = .ok (.sipush (1536), 3)) (by decide : _ = (1536 : Int32))) ?_
  obtain ⟨g492, h⟩ := gd_some h
  obtain ⟨m493, hm493, h⟩ := vb_some h
  refine (p_newI (pc := 484) hm493 (by decide +kernel : decode k_R_init.2.1 484 = .ok (.newarray .int, 2)) lw_arr_int g492) ?_
  have t496 : mT m493 (mC m489) = 32 := by rw [hm493]; exact up1_eq
  obtain ⟨t497, h⟩ := gt_some h
  obtain ⟨m498, hm498, h⟩ := vb_some h
  have t499 : mT m498 (mC m489) = 32 := by rw [hm498]; exact t496
  have t500 : mT m498 a0 = 13 := by rw [hm498]; exact t497
  refine (p_putr (pc := 486) hm498 (by decide +kernel : decode k_R_init.2.1 486 = .ok (.putfield 185, 3)) lp_12_185 t497) ?_
  refine (p_aload_n (pc := 489) (k := 0) (by decide +kernel : decode k_R_init.2.1 489 = .ok (.aload_n 0, 1)) rfl rfl) ?_
  refine (r_bipush (pc := 490) (by decide +kernel : decode k_R_init.2.1 490 = .ok (.bipush (24), 2)) (by decide : _ = (24 : Int32))) ?_
  obtain ⟨g501, h⟩ := gd_some h
  obtain ⟨m502, hm502, h⟩ := vb_some h
  refine (p_newI (pc := 492) hm502 (by decide +kernel : decode k_R_init.2.1 492 = .ok (.newarray .int, 2)) lw_arr_int g501) ?_
  have t505 : mT m502 (mC m498) = 32 := by rw [hm502]; exact up1_eq
  obtain ⟨t506, h⟩ := gt_some h
  obtain ⟨m507, hm507, h⟩ := vb_some h
  have t508 : mT m507 (mC m498) = 32 := by rw [hm507]; exact t505
  have t509 : mT m507 a0 = 13 := by rw [hm507]; exact t506
  refine (p_putr (pc := 494) hm507 (by decide +kernel : decode k_R_init.2.1 494 = .ok (.putfield 188, 3)) lp_12_188 t506) ?_
  refine (p_aload_n (pc := 497) (k := 0) (by decide +kernel : decode k_R_init.2.1 497 = .ok (.aload_n 0, 1)) rfl rfl) ?_
  refine (r_bipush (pc := 498) (by decide +kernel : decode k_R_init.2.1 498 = .ok (.bipush (24), 2)) (by decide : _ = (24 : Int32))) ?_
  obtain ⟨g510, h⟩ := gd_some h
  obtain ⟨m511, hm511, h⟩ := vb_some h
  refine (p_newI (pc := 500) hm511 (by decide +kernel : decode k_R_init.2.1 500 = .ok (.newarray .int, 2)) lw_arr_int g510) ?_
  have t514 : mT m511 (mC m507) = 32 := by rw [hm511]; exact up1_eq
  obtain ⟨t515, h⟩ := gt_some h
  obtain ⟨m516, hm516, h⟩ := vb_some h
  have t517 : mT m516 (mC m507) = 32 := by rw [hm516]; exact t514
  have t518 : mT m516 a0 = 13 := by rw [hm516]; exact t515
  refine (p_putr (pc := 502) hm516 (by decide +kernel : decode k_R_init.2.1 502 = .ok (.putfield 191, 3)) lp_12_191 t515) ?_
  refine (p_aload_n (pc := 505) (k := 0) (by decide +kernel : decode k_R_init.2.1 505 = .ok (.aload_n 0, 1)) rfl rfl) ?_
  refine (r_sipush (pc := 506) (by decide +kernel : decode k_R_init.2.1 506 = .ok (.sipush (720), 3)) (by decide : _ = (720 : Int32))) ?_
  obtain ⟨g519, h⟩ := gd_some h
  obtain ⟨m520, hm520, h⟩ := vb_some h
  refine (p_newI (pc := 509) hm520 (by decide +kernel : decode k_R_init.2.1 509 = .ok (.newarray .int, 2)) lw_arr_int g519) ?_
  have t523 : mT m520 (mC m516) = 32 := by rw [hm520]; exact up1_eq
  obtain ⟨t524, h⟩ := gt_some h
  obtain ⟨m525, hm525, h⟩ := vb_some h
  have t526 : mT m525 (mC m516) = 32 := by rw [hm525]; exact t523
  have t527 : mT m525 a0 = 13 := by rw [hm525]; exact t524
  refine (p_putr (pc := 511) hm525 (by decide +kernel : decode k_R_init.2.1 511 = .ok (.putfield 194, 3)) lp_12_194 t524) ?_
  refine (p_aload_n (pc := 514) (k := 0) (by decide +kernel : decode k_R_init.2.1 514 = .ok (.aload_n 0, 1)) rfl rfl) ?_
  refine (r_iconst (pc := 515) (by decide +kernel : decode k_R_init.2.1 515 = .ok (.iconst (-1), 1)) ic_m1) ?_
  obtain ⟨m528, hm528, h⟩ := vb_some h
  have t529 : mT m528 (mC m516) = 32 := by rw [hm528]; exact t526
  have t530 : mT m528 a0 = 13 := by rw [hm528]; exact t527
  refine (p_putI (pc := 516) hm528 (by decide +kernel : decode k_R_init.2.1 516 = .ok (.putfield 197, 3)) lp_12_197 t527) ?_
  refine (p_aload_n (pc := 519) (k := 0) (by decide +kernel : decode k_R_init.2.1 519 = .ok (.aload_n 0, 1)) rfl rfl) ?_
  refine (r_sipush (pc := 520) (by decide +kernel : decode k_R_init.2.1 520 = .ok (.sipush (1536), 3)) (by decide : _ = (1536 : Int32))) ?_
  obtain ⟨g531, h⟩ := gd_some h
  obtain ⟨m532, hm532, h⟩ := vb_some h
  refine (p_newI (pc := 523) hm532 (by decide +kernel : decode k_R_init.2.1 523 = .ok (.newarray .int, 2)) lw_arr_int g531) ?_
  have t535 : mT m532 (mC m528) = 32 := by rw [hm532]; exact up1_eq
  obtain ⟨t536, h⟩ := gt_some h
  obtain ⟨m537, hm537, h⟩ := vb_some h
  have t538 : mT m537 (mC m528) = 32 := by rw [hm537]; exact t535
  have t539 : mT m537 a0 = 13 := by rw [hm537]; exact t536
  refine (p_putr (pc := 525) hm537 (by decide +kernel : decode k_R_init.2.1 525 = .ok (.putfield 200, 3)) lp_12_200 t536) ?_
  refine (p_aload_n (pc := 528) (k := 0) (by decide +kernel : decode k_R_init.2.1 528 = .ok (.aload_n 0, 1)) rfl rfl) ?_
  refine (r_iconst (pc := 529) (by decide +kernel : decode k_R_init.2.1 529 = .ok (.iconst (-1), 1)) ic_m1) ?_
  obtain ⟨m540, hm540, h⟩ := vb_some h
  have t541 : mT m540 (mC m528) = 32 := by rw [hm540]; exact t538
  have t542 : mT m540 a0 = 13 := by rw [hm540]; exact t539
  refine (p_putI (pc := 530) hm540 (by decide +kernel : decode k_R_init.2.1 530 = .ok (.putfield 203, 3)) lp_12_203 t539) ?_
  refine (p_aload_n (pc := 533) (k := 0) (by decide +kernel : decode k_R_init.2.1 533 = .ok (.aload_n 0, 1)) rfl rfl) ?_
  refine (r_bipush (pc := 534) (by decide +kernel : decode k_R_init.2.1 534 = .ok (.bipush (48), 2)) (by decide : _ = (48 : Int32))) ?_
  obtain ⟨g543, h⟩ := gd_some h
  obtain ⟨m544, hm544, h⟩ := vb_some h
  refine (p_newI (pc := 536) hm544 (by decide +kernel : decode k_R_init.2.1 536 = .ok (.newarray .int, 2)) lw_arr_int g543) ?_
  have t547 : mT m544 (mC m540) = 32 := by rw [hm544]; exact up1_eq
  obtain ⟨t548, h⟩ := gt_some h
  obtain ⟨m549, hm549, h⟩ := vb_some h
  have t550 : mT m549 (mC m540) = 32 := by rw [hm549]; exact t547
  have t551 : mT m549 a0 = 13 := by rw [hm549]; exact t548
  refine (p_putr (pc := 538) hm549 (by decide +kernel : decode k_R_init.2.1 538 = .ok (.putfield 206, 3)) lp_12_206 t548) ?_
  refine (p_aload_n (pc := 541) (k := 0) (by decide +kernel : decode k_R_init.2.1 541 = .ok (.aload_n 0, 1)) rfl rfl) ?_
  refine (r_bipush (pc := 542) (by decide +kernel : decode k_R_init.2.1 542 = .ok (.bipush (48), 2)) (by decide : _ = (48 : Int32))) ?_
  obtain ⟨g552, h⟩ := gd_some h
  obtain ⟨m553, hm553, h⟩ := vb_some h
  refine (p_newI (pc := 544) hm553 (by decide +kernel : decode k_R_init.2.1 544 = .ok (.newarray .int, 2)) lw_arr_int g552) ?_
  have t556 : mT m553 (mC m549) = 32 := by rw [hm553]; exact up1_eq
  obtain ⟨t557, h⟩ := gt_some h
  obtain ⟨m558, hm558, h⟩ := vb_some h
  have t559 : mT m558 (mC m549) = 32 := by rw [hm558]; exact t556
  have t560 : mT m558 a0 = 13 := by rw [hm558]; exact t557
  refine (p_putr (pc := 546) hm558 (by decide +kernel : decode k_R_init.2.1 546 = .ok (.putfield 209, 3)) lp_12_209 t557) ?_
  refine (p_aload_n (pc := 549) (k := 0) (by decide +kernel : decode k_R_init.2.1 549 = .ok (.aload_n 0, 1)) rfl rfl) ?_
  refine (r_bipush (pc := 550) (by decide +kernel : decode k_R_init.2.1 550 = .ok (.bipush (48), 2)) (by decide : _ = (48 : Int32))) ?_
  obtain ⟨g561, h⟩ := gd_some h
  obtain ⟨m562, hm562, h⟩ := vb_some h
  refine (p_newI (pc := 552) hm562 (by decide +kernel : decode k_R_init.2.1 552 = .ok (.newarray .int, 2)) lw_arr_int g561) ?_
  have t565 : mT m562 (mC m558) = 32 := by rw [hm562]; exact up1_eq
  obtain ⟨t566, h⟩ := gt_some h
  obtain ⟨m567, hm567, h⟩ := vb_some h
  have t568 : mT m567 (mC m558) = 32 := by rw [hm567]; exact t565
  have t569 : mT m567 a0 = 13 := by rw [hm567]; exact t566
  refine (p_putr (pc := 554) hm567 (by decide +kernel : decode k_R_init.2.1 554 = .ok (.putfield 212, 3)) lp_12_212 t566) ?_
  refine (p_aload_n (pc := 557) (k := 0) (by decide +kernel : decode k_R_init.2.1 557 = .ok (.aload_n 0, 1)) rfl rfl) ?_
  refine (r_bipush (pc := 558) (by decide +kernel : decode k_R_init.2.1 558 = .ok (.bipush (48), 2)) (by decide : _ = (48 : Int32))) ?_
  obtain ⟨g570, h⟩ := gd_some h
  obtain ⟨m571, hm571, h⟩ := vb_some h
  refine (p_newI (pc := 560) hm571 (by decide +kernel : decode k_R_init.2.1 560 = .ok (.newarray .int, 2)) lw_arr_int g570) ?_
  have t574 : mT m571 (mC m567) = 32 := by rw [hm571]; exact up1_eq
  obtain ⟨t575, h⟩ := gt_some h
  obtain ⟨m576, hm576, h⟩ := vb_some h
  have t577 : mT m576 (mC m567) = 32 := by rw [hm576]; exact t574
  have t578 : mT m576 a0 = 13 := by rw [hm576]; exact t575
  refine (p_putr (pc := 562) hm576 (by decide +kernel : decode k_R_init.2.1 562 = .ok (.putfield 215, 3)) lp_12_215 t575) ?_
  refine (p_aload_n (pc := 565) (k := 0) (by decide +kernel : decode k_R_init.2.1 565 = .ok (.aload_n 0, 1)) rfl rfl) ?_
  refine (r_bipush (pc := 566) (by decide +kernel : decode k_R_init.2.1 566 = .ok (.bipush (48), 2)) (by decide : _ = (48 : Int32))) ?_
  obtain ⟨g579, h⟩ := gd_some h
  obtain ⟨m580, hm580, h⟩ := vb_some h
  refine (p_newI (pc := 568) hm580 (by decide +kernel : decode k_R_init.2.1 568 = .ok (.newarray .int, 2)) lw_arr_int g579) ?_
  have t583 : mT m580 (mC m576) = 32 := by rw [hm580]; exact up1_eq
  obtain ⟨t584, h⟩ := gt_some h
  obtain ⟨m585, hm585, h⟩ := vb_some h
  have t586 : mT m585 (mC m576) = 32 := by rw [hm585]; exact t583
  have t587 : mT m585 a0 = 13 := by rw [hm585]; exact t584
  refine (p_putr (pc := 570) hm585 (by decide +kernel : decode k_R_init.2.1 570 = .ok (.putfield 218, 3)) lp_12_218 t584) ?_
  refine (p_aload_n (pc := 573) (k := 0) (by decide +kernel : decode k_R_init.2.1 573 = .ok (.aload_n 0, 1)) rfl rfl) ?_
  refine (r_bipush (pc := 574) (by decide +kernel : decode k_R_init.2.1 574 = .ok (.bipush (48), 2)) (by decide : _ = (48 : Int32))) ?_
  obtain ⟨g588, h⟩ := gd_some h
  obtain ⟨m589, hm589, h⟩ := vb_some h
  refine (p_newI (pc := 576) hm589 (by decide +kernel : decode k_R_init.2.1 576 = .ok (.newarray .int, 2)) lw_arr_int g588) ?_
  have t592 : mT m589 (mC m585) = 32 := by rw [hm589]; exact up1_eq
  obtain ⟨t593, h⟩ := gt_some h
  obtain ⟨m594, hm594, h⟩ := vb_some h
  have t595 : mT m594 (mC m585) = 32 := by rw [hm594]; exact t592
  have t596 : mT m594 a0 = 13 := by rw [hm594]; exact t593
  refine (p_putr (pc := 578) hm594 (by decide +kernel : decode k_R_init.2.1 578 = .ok (.putfield 221, 3)) lp_12_221 t593) ?_
  refine (p_aload_n (pc := 581) (k := 0) (by decide +kernel : decode k_R_init.2.1 581 = .ok (.aload_n 0, 1)) rfl rfl) ?_
  refine (r_bipush (pc := 582) (by decide +kernel : decode k_R_init.2.1 582 = .ok (.bipush (48), 2)) (by decide : _ = (48 : Int32))) ?_
  obtain ⟨g597, h⟩ := gd_some h
  obtain ⟨m598, hm598, h⟩ := vb_some h
  refine (p_newI (pc := 584) hm598 (by decide +kernel : decode k_R_init.2.1 584 = .ok (.newarray .int, 2)) lw_arr_int g597) ?_
  have t601 : mT m598 (mC m594) = 32 := by rw [hm598]; exact up1_eq
  obtain ⟨t602, h⟩ := gt_some h
  obtain ⟨m603, hm603, h⟩ := vb_some h
  have t604 : mT m603 (mC m594) = 32 := by rw [hm603]; exact t601
  have t605 : mT m603 a0 = 13 := by rw [hm603]; exact t602
  refine (p_putr (pc := 586) hm603 (by decide +kernel : decode k_R_init.2.1 586 = .ok (.putfield 224, 3)) lp_12_224 t602) ?_
  refine (p_aload_n (pc := 589) (k := 0) (by decide +kernel : decode k_R_init.2.1 589 = .ok (.aload_n 0, 1)) rfl rfl) ?_
  refine (r_bipush (pc := 590) (by decide +kernel : decode k_R_init.2.1 590 = .ok (.bipush (48), 2)) (by decide : _ = (48 : Int32))) ?_
  obtain ⟨g606, h⟩ := gd_some h
  obtain ⟨m607, hm607, h⟩ := vb_some h
  refine (p_newI (pc := 592) hm607 (by decide +kernel : decode k_R_init.2.1 592 = .ok (.newarray .int, 2)) lw_arr_int g606) ?_
  have t610 : mT m607 (mC m603) = 32 := by rw [hm607]; exact up1_eq
  obtain ⟨t611, h⟩ := gt_some h
  obtain ⟨m612, hm612, h⟩ := vb_some h
  have t613 : mT m612 (mC m603) = 32 := by rw [hm612]; exact t610
  have t614 : mT m612 a0 = 13 := by rw [hm612]; exact t611
  refine (p_putr (pc := 594) hm612 (by decide +kernel : decode k_R_init.2.1 594 = .ok (.putfield 227, 3)) lp_12_227 t611) ?_
  refine (p_aload_n (pc := 597) (k := 0) (by decide +kernel : decode k_R_init.2.1 597 = .ok (.aload_n 0, 1)) rfl rfl) ?_
  refine (r_bipush (pc := 598) (by decide +kernel : decode k_R_init.2.1 598 = .ok (.bipush (24), 2)) (by decide : _ = (24 : Int32))) ?_
  obtain ⟨g615, h⟩ := gd_some h
  obtain ⟨m616, hm616, h⟩ := vb_some h
  refine (p_newZ (pc := 600) hm616 (by decide +kernel : decode k_R_init.2.1 600 = .ok (.newarray .boolean, 2)) lw_arr_boolean g615) ?_
  have t619 : mT m616 (mC m612) = 34 := by rw [hm616]; exact up1_eq
  obtain ⟨t620, h⟩ := gt_some h
  obtain ⟨m621, hm621, h⟩ := vb_some h
  have t622 : mT m621 (mC m612) = 34 := by rw [hm621]; exact t619
  have t623 : mT m621 a0 = 13 := by rw [hm621]; exact t620
  refine (p_putr (pc := 602) hm621 (by decide +kernel : decode k_R_init.2.1 602 = .ok (.putfield 230, 3)) lp_12_230 t620) ?_
  refine (p_aload_n (pc := 605) (k := 0) (by decide +kernel : decode k_R_init.2.1 605 = .ok (.aload_n 0, 1)) rfl rfl) ?_
  refine (r_sipush (pc := 606) (by decide +kernel : decode k_R_init.2.1 606 = .ok (.sipush (1536), 3)) (by decide : _ = (1536 : Int32))) ?_
  obtain ⟨g624, h⟩ := gd_some h
  obtain ⟨m625, hm625, h⟩ := vb_some h
  refine (p_newI (pc := 609) hm625 (by decide +kernel : decode k_R_init.2.1 609 = .ok (.newarray .int, 2)) lw_arr_int g624) ?_
  have t628 : mT m625 (mC m621) = 32 := by rw [hm625]; exact up1_eq
  obtain ⟨t629, h⟩ := gt_some h
  obtain ⟨m630, hm630, h⟩ := vb_some h
  have t631 : mT m630 (mC m621) = 32 := by rw [hm630]; exact t628
  have t632 : mT m630 a0 = 13 := by rw [hm630]; exact t629
  refine (p_putr (pc := 611) hm630 (by decide +kernel : decode k_R_init.2.1 611 = .ok (.putfield 233, 3)) lp_12_233 t629) ?_
  refine (p_aload_n (pc := 614) (k := 0) (by decide +kernel : decode k_R_init.2.1 614 = .ok (.aload_n 0, 1)) rfl rfl) ?_
  refine (r_bipush (pc := 615) (by decide +kernel : decode k_R_init.2.1 615 = .ok (.bipush (64), 2)) (by decide : _ = (64 : Int32))) ?_
  obtain ⟨g633, h⟩ := gd_some h
  obtain ⟨m634, hm634, h⟩ := vb_some h
  refine (p_newI (pc := 617) hm634 (by decide +kernel : decode k_R_init.2.1 617 = .ok (.newarray .int, 2)) lw_arr_int g633) ?_
  have t637 : mT m634 (mC m630) = 32 := by rw [hm634]; exact up1_eq
  obtain ⟨t638, h⟩ := gt_some h
  obtain ⟨m639, hm639, h⟩ := vb_some h
  have t640 : mT m639 (mC m630) = 32 := by rw [hm639]; exact t637
  have t641 : mT m639 a0 = 13 := by rw [hm639]; exact t638
  refine (p_putr (pc := 619) hm639 (by decide +kernel : decode k_R_init.2.1 619 = .ok (.putfield 236, 3)) lp_12_236 t638) ?_
  refine (p_aload_n (pc := 622) (k := 0) (by decide +kernel : decode k_R_init.2.1 622 = .ok (.aload_n 0, 1)) rfl rfl) ?_
  refine (r_bipush (pc := 623) (by decide +kernel : decode k_R_init.2.1 623 = .ok (.bipush (64), 2)) (by decide : _ = (64 : Int32))) ?_
  obtain ⟨g642, h⟩ := gd_some h
  obtain ⟨m643, hm643, h⟩ := vb_some h
  refine (p_newI (pc := 625) hm643 (by decide +kernel : decode k_R_init.2.1 625 = .ok (.newarray .int, 2)) lw_arr_int g642) ?_
  have t646 : mT m643 (mC m639) = 32 := by rw [hm643]; exact up1_eq
  obtain ⟨t647, h⟩ := gt_some h
  obtain ⟨m648, hm648, h⟩ := vb_some h
  have t649 : mT m648 (mC m639) = 32 := by rw [hm648]; exact t646
  have t650 : mT m648 a0 = 13 := by rw [hm648]; exact t647
  refine (p_putr (pc := 627) hm648 (by decide +kernel : decode k_R_init.2.1 627 = .ok (.putfield 239, 3)) lp_12_239 t647) ?_
  refine (p_aload_n (pc := 630) (k := 0) (by decide +kernel : decode k_R_init.2.1 630 = .ok (.aload_n 0, 1)) rfl rfl) ?_
  refine (r_bipush (pc := 631) (by decide +kernel : decode k_R_init.2.1 631 = .ok (.bipush (24), 2)) (by decide : _ = (24 : Int32))) ?_
  obtain ⟨g651, h⟩ := gd_some h
  obtain ⟨m652, hm652, h⟩ := vb_some h
  refine (p_newL (pc := 633) hm652 (by decide +kernel : decode k_R_init.2.1 633 = .ok (.newarray .long, 2)) lw_arr_long g651) ?_
  have t655 : mT m652 (mC m648) = 35 := by rw [hm652]; exact up1_eq
  obtain ⟨t656, h⟩ := gt_some h
  obtain ⟨m657, hm657, h⟩ := vb_some h
  have t658 : mT m657 (mC m648) = 35 := by rw [hm657]; exact t655
  have t659 : mT m657 a0 = 13 := by rw [hm657]; exact t656
  refine (p_putr (pc := 635) hm657 (by decide +kernel : decode k_R_init.2.1 635 = .ok (.putfield 242, 3)) lp_12_242 t656) ?_
  refine (p_aload_n (pc := 638) (k := 0) (by decide +kernel : decode k_R_init.2.1 638 = .ok (.aload_n 0, 1)) rfl rfl) ?_
  refine (r_bipush (pc := 639) (by decide +kernel : decode k_R_init.2.1 639 = .ok (.bipush (16), 2)) (by decide : _ = (16 : Int32))) ?_
  obtain ⟨g660, h⟩ := gd_some h
  obtain ⟨m661, hm661, h⟩ := vb_some h
  refine (p_newI (pc := 641) hm661 (by decide +kernel : decode k_R_init.2.1 641 = .ok (.newarray .int, 2)) lw_arr_int g660) ?_
  have t664 : mT m661 (mC m657) = 32 := by rw [hm661]; exact up1_eq
  obtain ⟨t665, h⟩ := gt_some h
  obtain ⟨m666, hm666, h⟩ := vb_some h
  have t667 : mT m666 (mC m657) = 32 := by rw [hm666]; exact t664
  have t668 : mT m666 a0 = 13 := by rw [hm666]; exact t665
  refine (p_putr (pc := 643) hm666 (by decide +kernel : decode k_R_init.2.1 643 = .ok (.putfield 245, 3)) lp_12_245 t665) ?_
  refine (p_aload_n (pc := 646) (k := 0) (by decide +kernel : decode k_R_init.2.1 646 = .ok (.aload_n 0, 1)) rfl rfl) ?_
  refine (r_sipush (pc := 647) (by decide +kernel : decode k_R_init.2.1 647 = .ok (.sipush (256), 3)) (by decide : _ = (256 : Int32))) ?_
  obtain ⟨g669, h⟩ := gd_some h
  obtain ⟨m670, hm670, h⟩ := vb_some h
  refine (p_newZ (pc := 650) hm670 (by decide +kernel : decode k_R_init.2.1 650 = .ok (.newarray .boolean, 2)) lw_arr_boolean g669) ?_
  have t673 : mT m670 (mC m666) = 34 := by rw [hm670]; exact up1_eq
  obtain ⟨t674, h⟩ := gt_some h
  obtain ⟨m675, hm675, h⟩ := vb_some h
  have t676 : mT m675 (mC m666) = 34 := by rw [hm675]; exact t673
  have t677 : mT m675 a0 = 13 := by rw [hm675]; exact t674
  refine (p_putr (pc := 652) hm675 (by decide +kernel : decode k_R_init.2.1 652 = .ok (.putfield 248, 3)) lp_12_248 t674) ?_
  refine (p_aload_n (pc := 655) (k := 0) (by decide +kernel : decode k_R_init.2.1 655 = .ok (.aload_n 0, 1)) rfl rfl) ?_
  refine (r_bipush (pc := 656) (by decide +kernel : decode k_R_init.2.1 656 = .ok (.bipush (16), 2)) (by decide : _ = (16 : Int32))) ?_
  obtain ⟨g678, h⟩ := gd_some h
  obtain ⟨m679, hm679, h⟩ := vb_some h
  refine (p_newI (pc := 658) hm679 (by decide +kernel : decode k_R_init.2.1 658 = .ok (.newarray .int, 2)) lw_arr_int g678) ?_
  have t682 : mT m679 (mC m675) = 32 := by rw [hm679]; exact up1_eq
  obtain ⟨t683, h⟩ := gt_some h
  obtain ⟨m684, hm684, h⟩ := vb_some h
  have t685 : mT m684 (mC m675) = 32 := by rw [hm684]; exact t682
  have t686 : mT m684 a0 = 13 := by rw [hm684]; exact t683
  refine (p_putr (pc := 660) hm684 (by decide +kernel : decode k_R_init.2.1 660 = .ok (.putfield 251, 3)) lp_12_251 t683) ?_
  refine (p_aload_n (pc := 663) (k := 0) (by decide +kernel : decode k_R_init.2.1 663 = .ok (.aload_n 0, 1)) rfl rfl) ?_
  refine (r_bipush (pc := 664) (by decide +kernel : decode k_R_init.2.1 664 = .ok (.bipush (16), 2)) (by decide : _ = (16 : Int32))) ?_
  obtain ⟨g687, h⟩ := gd_some h
  obtain ⟨m688, hm688, h⟩ := vb_some h
  refine (p_newI (pc := 666) hm688 (by decide +kernel : decode k_R_init.2.1 666 = .ok (.newarray .int, 2)) lw_arr_int g687) ?_
  have t691 : mT m688 (mC m684) = 32 := by rw [hm688]; exact up1_eq
  obtain ⟨t692, h⟩ := gt_some h
  obtain ⟨m693, hm693, h⟩ := vb_some h
  have t694 : mT m693 (mC m684) = 32 := by rw [hm693]; exact t691
  have t695 : mT m693 a0 = 13 := by rw [hm693]; exact t692
  refine (p_putr (pc := 668) hm693 (by decide +kernel : decode k_R_init.2.1 668 = .ok (.putfield 254, 3)) lp_12_254 t692) ?_
  refine (p_aload_n (pc := 671) (k := 0) (by decide +kernel : decode k_R_init.2.1 671 = .ok (.aload_n 0, 1)) rfl rfl) ?_
  refine (r_bipush (pc := 672) (by decide +kernel : decode k_R_init.2.1 672 = .ok (.bipush (7), 2)) (by decide : _ = (7 : Int32))) ?_
  obtain ⟨g696, h⟩ := gd_some h
  obtain ⟨m697, hm697, h⟩ := vb_some h
  refine (p_newI (pc := 674) hm697 (by decide +kernel : decode k_R_init.2.1 674 = .ok (.newarray .int, 2)) lw_arr_int g696) ?_
  have t700 : mT m697 (mC m693) = 32 := by rw [hm697]; exact up1_eq
  obtain ⟨t701, h⟩ := gt_some h
  obtain ⟨m702, hm702, h⟩ := vb_some h
  have t703 : mT m702 (mC m693) = 32 := by rw [hm702]; exact t700
  have t704 : mT m702 a0 = 13 := by rw [hm702]; exact t701
  refine (p_putr (pc := 676) hm702 (by decide +kernel : decode k_R_init.2.1 676 = .ok (.putfield 257, 3)) lp_12_257 t701) ?_
  refine (p_aload_n (pc := 679) (k := 0) (by decide +kernel : decode k_R_init.2.1 679 = .ok (.aload_n 0, 1)) rfl rfl) ?_
  refine (r_bipush (pc := 680) (by decide +kernel : decode k_R_init.2.1 680 = .ok (.bipush (7), 2)) (by decide : _ = (7 : Int32))) ?_
  obtain ⟨g705, h⟩ := gd_some h
  obtain ⟨m706, hm706, h⟩ := vb_some h
  refine (p_newI (pc := 682) hm706 (by decide +kernel : decode k_R_init.2.1 682 = .ok (.newarray .int, 2)) lw_arr_int g705) ?_
  have t709 : mT m706 (mC m702) = 32 := by rw [hm706]; exact up1_eq
  obtain ⟨t710, h⟩ := gt_some h
  obtain ⟨m711, hm711, h⟩ := vb_some h
  have t712 : mT m711 (mC m702) = 32 := by rw [hm711]; exact t709
  have t713 : mT m711 a0 = 13 := by rw [hm711]; exact t710
  refine (p_putr (pc := 684) hm711 (by decide +kernel : decode k_R_init.2.1 684 = .ok (.putfield 260, 3)) lp_12_260 t710) ?_
  refine (p_aload_n (pc := 687) (k := 0) (by decide +kernel : decode k_R_init.2.1 687 = .ok (.aload_n 0, 1)) rfl rfl) ?_
  refine (r_bipush (pc := 688) (by decide +kernel : decode k_R_init.2.1 688 = .ok (.bipush (7), 2)) (by decide : _ = (7 : Int32))) ?_
  obtain ⟨g714, h⟩ := gd_some h
  obtain ⟨m715, hm715, h⟩ := vb_some h
  refine (p_newI (pc := 690) hm715 (by decide +kernel : decode k_R_init.2.1 690 = .ok (.newarray .int, 2)) lw_arr_int g714) ?_
  have t718 : mT m715 (mC m711) = 32 := by rw [hm715]; exact up1_eq
  obtain ⟨t719, h⟩ := gt_some h
  obtain ⟨m720, hm720, h⟩ := vb_some h
  have t721 : mT m720 (mC m711) = 32 := by rw [hm720]; exact t718
  have t722 : mT m720 a0 = 13 := by rw [hm720]; exact t719
  refine (p_putr (pc := 692) hm720 (by decide +kernel : decode k_R_init.2.1 692 = .ok (.putfield 263, 3)) lp_12_263 t719) ?_
  refine (p_aload_n (pc := 695) (k := 0) (by decide +kernel : decode k_R_init.2.1 695 = .ok (.aload_n 0, 1)) rfl rfl) ?_
  refine (r_bipush (pc := 696) (by decide +kernel : decode k_R_init.2.1 696 = .ok (.bipush (7), 2)) (by decide : _ = (7 : Int32))) ?_
  obtain ⟨g723, h⟩ := gd_some h
  obtain ⟨m724, hm724, h⟩ := vb_some h
  refine (p_newI (pc := 698) hm724 (by decide +kernel : decode k_R_init.2.1 698 = .ok (.newarray .int, 2)) lw_arr_int g723) ?_
  have t727 : mT m724 (mC m720) = 32 := by rw [hm724]; exact up1_eq
  obtain ⟨t728, h⟩ := gt_some h
  obtain ⟨m729, hm729, h⟩ := vb_some h
  have t730 : mT m729 (mC m720) = 32 := by rw [hm729]; exact t727
  have t731 : mT m729 a0 = 13 := by rw [hm729]; exact t728
  refine (p_putr (pc := 700) hm729 (by decide +kernel : decode k_R_init.2.1 700 = .ok (.putfield 266, 3)) lp_12_266 t728) ?_
  refine (p_aload_n (pc := 703) (k := 0) (by decide +kernel : decode k_R_init.2.1 703 = .ok (.aload_n 0, 1)) rfl rfl) ?_
  refine (r_bipush (pc := 704) (by decide +kernel : decode k_R_init.2.1 704 = .ok (.bipush (7), 2)) (by decide : _ = (7 : Int32))) ?_
  obtain ⟨g732, h⟩ := gd_some h
  obtain ⟨m733, hm733, h⟩ := vb_some h
  refine (p_newI (pc := 706) hm733 (by decide +kernel : decode k_R_init.2.1 706 = .ok (.newarray .int, 2)) lw_arr_int g732) ?_
  have t736 : mT m733 (mC m729) = 32 := by rw [hm733]; exact up1_eq
  obtain ⟨t737, h⟩ := gt_some h
  obtain ⟨m738, hm738, h⟩ := vb_some h
  have t739 : mT m738 (mC m729) = 32 := by rw [hm738]; exact t736
  have t740 : mT m738 a0 = 13 := by rw [hm738]; exact t737
  refine (p_putr (pc := 708) hm738 (by decide +kernel : decode k_R_init.2.1 708 = .ok (.putfield 269, 3)) lp_12_269 t737) ?_
  refine (p_aload_n (pc := 711) (k := 0) (by decide +kernel : decode k_R_init.2.1 711 = .ok (.aload_n 0, 1)) rfl rfl) ?_
  obtain ⟨a741, o742, h⟩ := gs_some h
  refine (p_getr (pc := 712) o742 (by decide +kernel : decode k_R_init.2.1 712 = .ok (.getfield 34, 3)) lg_12_34 t740) ?_
  refine (r_iconst (pc := 715) (by decide +kernel : decode k_R_init.2.1 715 = .ok (.iconst 0, 1)) ic_0) ?_
  refine (r_bipush (pc := 716) (by decide +kernel : decode k_R_init.2.1 716 = .ok (.bipush (97), 2)) (by decide : _ = (97 : Int32))) ?_
  refine (r_bipush (pc := 718) (by decide +kernel : decode k_R_init.2.1 718 = .ok (.bipush (119), 2)) (by decide : _ = (119 : Int32))) ?_
  refine (r_bipush (pc := 720) (by decide +kernel : decode k_R_init.2.1 720 = .ok (.bipush (97), 2)) (by decide : _ = (97 : Int32))) ?_
  refine (r_bipush (pc := 722) (by decide +kernel : decode k_R_init.2.1 722 = .ok (.bipush (114), 2)) (by decide : _ = (114 : Int32))) ?_
  refine (r_bipush (pc := 724) (by decide +kernel : decode k_R_init.2.1 724 = .ok (.bipush (100), 2)) (by decide : _ = (100 : Int32))) ?_
  refine (r_iconst (pc := 726) (by decide +kernel : decode k_R_init.2.1 726 = .ok (.iconst 0, 1)) ic_0) ?_
  refine (r_iconst (pc := 727) (by decide +kernel : decode k_R_init.2.1 727 = .ok (.iconst 0, 1)) ic_0) ?_
  obtain ⟨r743, hr743, h⟩ := bp_some h
  refine (q_callS (pc := 728) (As := [.int 97, .int 119, .int 97, .int 114, .int 100, .int 0, .int 0]) (st := [.int 0, .ref a741]) (st2 := [.long r743, .int 0, .ref a741]) rfl rfl (by decide +kernel : decode k_R_init.2.1 728 = .ok (.invokestatic 272, 3)) lc_12_272 mo_R_word ⟨Nat.le_of_ble_eq_true rfl, Nat.le_of_ble_eq_true rfl⟩ (Nat.le_of_ble_eq_true rfl) (Nat.le_of_ble_eq_true rfl) (R_word_run hr743)) ?_
  obtain ⟨t744, h⟩ := gt_some h
  obtain ⟨g745, h⟩ := gd_some h
  obtain ⟨m746, hm746, h⟩ := vb_some h
  have t747 : mT m746 (mC m729) = 32 := by rw [hm746]; exact t739
  have t748 : mT m746 a0 = 13 := by rw [hm746]; exact t740
  have t749 : mT m746 a741 = 35 := by rw [hm746]; exact t744
  refine (p_last (pc := 731) hm746 (by decide +kernel : decode k_R_init.2.1 731 = .ok (.lastore, 1)) t744 rfl g745) ?_
  refine (p_aload_n (pc := 732) (k := 0) (by decide +kernel : decode k_R_init.2.1 732 = .ok (.aload_n 0, 1)) rfl rfl) ?_
  obtain ⟨a750, o751, h⟩ := gs_some h
  refine (p_getr (pc := 733) o751 (by decide +kernel : decode k_R_init.2.1 733 = .ok (.getfield 34, 3)) lg_12_34 t748) ?_
  refine (r_iconst (pc := 736) (by decide +kernel : decode k_R_init.2.1 736 = .ok (.iconst 1, 1)) ic_1) ?_
  refine (r_bipush (pc := 737) (by decide +kernel : decode k_R_init.2.1 737 = .ok (.bipush (118), 2)) (by decide : _ = (118 : Int32))) ?_
  refine (r_bipush (pc := 739) (by decide +kernel : decode k_R_init.2.1 739 = .ok (.bipush (97), 2)) (by decide : _ = (97 : Int32))) ?_
  refine (r_bipush (pc := 741) (by decide +kernel : decode k_R_init.2.1 741 = .ok (.bipush (114), 2)) (by decide : _ = (114 : Int32))) ?_
  refine (r_bipush (pc := 743) (by decide +kernel : decode k_R_init.2.1 743 = .ok (.bipush (121), 2)) (by decide : _ = (121 : Int32))) ?_
  refine (r_iconst (pc := 745) (by decide +kernel : decode k_R_init.2.1 745 = .ok (.iconst 0, 1)) ic_0) ?_
  refine (r_iconst (pc := 746) (by decide +kernel : decode k_R_init.2.1 746 = .ok (.iconst 0, 1)) ic_0) ?_
  refine (r_iconst (pc := 747) (by decide +kernel : decode k_R_init.2.1 747 = .ok (.iconst 0, 1)) ic_0) ?_
  obtain ⟨r752, hr752, h⟩ := bp_some h
  refine (q_callS (pc := 748) (As := [.int 118, .int 97, .int 114, .int 121, .int 0, .int 0, .int 0]) (st := [.int 1, .ref a750]) (st2 := [.long r752, .int 1, .ref a750]) rfl rfl (by decide +kernel : decode k_R_init.2.1 748 = .ok (.invokestatic 272, 3)) lc_12_272 mo_R_word ⟨Nat.le_of_ble_eq_true rfl, Nat.le_of_ble_eq_true rfl⟩ (Nat.le_of_ble_eq_true rfl) (Nat.le_of_ble_eq_true rfl) (R_word_run hr752)) ?_
  obtain ⟨t753, h⟩ := gt_some h
  obtain ⟨g754, h⟩ := gd_some h
  obtain ⟨m755, hm755, h⟩ := vb_some h
  have t756 : mT m755 (mC m729) = 32 := by rw [hm755]; exact t747
  have t757 : mT m755 a0 = 13 := by rw [hm755]; exact t748
  have t758 : mT m755 a741 = 35 := by rw [hm755]; exact t749
  have t759 : mT m755 a750 = 35 := by rw [hm755]; exact t753
  refine (p_last (pc := 751) hm755 (by decide +kernel : decode k_R_init.2.1 751 = .ok (.lastore, 1)) t753 rfl g754) ?_
  refine (p_aload_n (pc := 752) (k := 0) (by decide +kernel : decode k_R_init.2.1 752 = .ok (.aload_n 0, 1)) rfl rfl) ?_
  obtain ⟨a760, o761, h⟩ := gs_some h
  refine (p_getr (pc := 753) o761 (by decide +kernel : decode k_R_init.2.1 753 = .ok (.getfield 34, 3)) lg_12_34 t757) ?_
  refine (r_iconst (pc := 756) (by decide +kernel : decode k_R_init.2.1 756 = .ok (.iconst 2, 1)) ic_2) ?_
  refine (r_bipush (pc := 757) (by decide +kernel : decode k_R_init.2.1 757 = .ok (.bipush (111), 2)) (by decide : _ = (111 : Int32))) ?_
  refine (r_bipush (pc := 759) (by decide +kernel : decode k_R_init.2.1 759 = .ok (.bipush (114), 2)) (by decide : _ = (114 : Int32))) ?_
  refine (r_bipush (pc := 761) (by decide +kernel : decode k_R_init.2.1 761 = .ok (.bipush (100), 2)) (by decide : _ = (100 : Int32))) ?_
  refine (r_bipush (pc := 763) (by decide +kernel : decode k_R_init.2.1 763 = .ok (.bipush (101), 2)) (by decide : _ = (101 : Int32))) ?_
  refine (r_bipush (pc := 765) (by decide +kernel : decode k_R_init.2.1 765 = .ok (.bipush (114), 2)) (by decide : _ = (114 : Int32))) ?_
  refine (r_iconst (pc := 767) (by decide +kernel : decode k_R_init.2.1 767 = .ok (.iconst 0, 1)) ic_0) ?_
  refine (r_iconst (pc := 768) (by decide +kernel : decode k_R_init.2.1 768 = .ok (.iconst 0, 1)) ic_0) ?_
  obtain ⟨r762, hr762, h⟩ := bp_some h
  refine (q_callS (pc := 769) (As := [.int 111, .int 114, .int 100, .int 101, .int 114, .int 0, .int 0]) (st := [.int 2, .ref a760]) (st2 := [.long r762, .int 2, .ref a760]) rfl rfl (by decide +kernel : decode k_R_init.2.1 769 = .ok (.invokestatic 272, 3)) lc_12_272 mo_R_word ⟨Nat.le_of_ble_eq_true rfl, Nat.le_of_ble_eq_true rfl⟩ (Nat.le_of_ble_eq_true rfl) (Nat.le_of_ble_eq_true rfl) (R_word_run hr762)) ?_
  obtain ⟨t763, h⟩ := gt_some h
  obtain ⟨g764, h⟩ := gd_some h
  obtain ⟨m765, hm765, h⟩ := vb_some h
  have t766 : mT m765 (mC m729) = 32 := by rw [hm765]; exact t756
  have t767 : mT m765 a0 = 13 := by rw [hm765]; exact t757
  have t768 : mT m765 a741 = 35 := by rw [hm765]; exact t758
  have t769 : mT m765 a750 = 35 := by rw [hm765]; exact t759
  have t770 : mT m765 a760 = 35 := by rw [hm765]; exact t763
  refine (p_last (pc := 772) hm765 (by decide +kernel : decode k_R_init.2.1 772 = .ok (.lastore, 1)) t763 rfl g764) ?_
  refine (p_aload_n (pc := 773) (k := 0) (by decide +kernel : decode k_R_init.2.1 773 = .ok (.aload_n 0, 1)) rfl rfl) ?_
  obtain ⟨a771, o772, h⟩ := gs_some h
  refine (p_getr (pc := 774) o772 (by decide +kernel : decode k_R_init.2.1 774 = .ok (.getfield 34, 3)) lg_12_34 t767) ?_
  refine (r_iconst (pc := 777) (by decide +kernel : decode k_R_init.2.1 777 = .ok (.iconst 3, 1)) ic_3) ?_
  refine (r_bipush (pc := 778) (by decide +kernel : decode k_R_init.2.1 778 = .ok (.bipush (97), 2)) (by decide : _ = (97 : Int32))) ?_
  refine (r_bipush (pc := 780) (by decide +kernel : decode k_R_init.2.1 780 = .ok (.bipush (103), 2)) (by decide : _ = (103 : Int32))) ?_
  refine (r_bipush (pc := 782) (by decide +kernel : decode k_R_init.2.1 782 = .ok (.bipush (114), 2)) (by decide : _ = (114 : Int32))) ?_
  refine (r_bipush (pc := 784) (by decide +kernel : decode k_R_init.2.1 784 = .ok (.bipush (101), 2)) (by decide : _ = (101 : Int32))) ?_
  refine (r_bipush (pc := 786) (by decide +kernel : decode k_R_init.2.1 786 = .ok (.bipush (101), 2)) (by decide : _ = (101 : Int32))) ?_
  refine (r_iconst (pc := 788) (by decide +kernel : decode k_R_init.2.1 788 = .ok (.iconst 0, 1)) ic_0) ?_
  refine (r_iconst (pc := 789) (by decide +kernel : decode k_R_init.2.1 789 = .ok (.iconst 0, 1)) ic_0) ?_
  obtain ⟨r773, hr773, h⟩ := bp_some h
  refine (q_callS (pc := 790) (As := [.int 97, .int 103, .int 114, .int 101, .int 101, .int 0, .int 0]) (st := [.int 3, .ref a771]) (st2 := [.long r773, .int 3, .ref a771]) rfl rfl (by decide +kernel : decode k_R_init.2.1 790 = .ok (.invokestatic 272, 3)) lc_12_272 mo_R_word ⟨Nat.le_of_ble_eq_true rfl, Nat.le_of_ble_eq_true rfl⟩ (Nat.le_of_ble_eq_true rfl) (Nat.le_of_ble_eq_true rfl) (R_word_run hr773)) ?_
  obtain ⟨t774, h⟩ := gt_some h
  obtain ⟨g775, h⟩ := gd_some h
  obtain ⟨m776, hm776, h⟩ := vb_some h
  have t777 : mT m776 (mC m729) = 32 := by rw [hm776]; exact t766
  have t778 : mT m776 a0 = 13 := by rw [hm776]; exact t767
  have t779 : mT m776 a741 = 35 := by rw [hm776]; exact t768
  have t780 : mT m776 a750 = 35 := by rw [hm776]; exact t769
  have t781 : mT m776 a760 = 35 := by rw [hm776]; exact t770
  have t782 : mT m776 a771 = 35 := by rw [hm776]; exact t774
  refine (p_last (pc := 793) hm776 (by decide +kernel : decode k_R_init.2.1 793 = .ok (.lastore, 1)) t774 rfl g775) ?_
  refine (p_aload_n (pc := 794) (k := 0) (by decide +kernel : decode k_R_init.2.1 794 = .ok (.aload_n 0, 1)) rfl rfl) ?_
  obtain ⟨a783, o784, h⟩ := gs_some h
  refine (p_getr (pc := 795) o784 (by decide +kernel : decode k_R_init.2.1 795 = .ok (.getfield 34, 3)) lg_12_34 t778) ?_
  refine (r_iconst (pc := 798) (by decide +kernel : decode k_R_init.2.1 798 = .ok (.iconst 4, 1)) ic_4) ?_
  refine (r_bipush (pc := 799) (by decide +kernel : decode k_R_init.2.1 799 = .ok (.bipush (102), 2)) (by decide : _ = (102 : Int32))) ?_
  refine (r_bipush (pc := 801) (by decide +kernel : decode k_R_init.2.1 801 = .ok (.bipush (105), 2)) (by decide : _ = (105 : Int32))) ?_
  refine (r_bipush (pc := 803) (by decide +kernel : decode k_R_init.2.1 803 = .ok (.bipush (114), 2)) (by decide : _ = (114 : Int32))) ?_
  refine (r_bipush (pc := 805) (by decide +kernel : decode k_R_init.2.1 805 = .ok (.bipush (109), 2)) (by decide : _ = (109 : Int32))) ?_
  refine (r_iconst (pc := 807) (by decide +kernel : decode k_R_init.2.1 807 = .ok (.iconst 0, 1)) ic_0) ?_
  refine (r_iconst (pc := 808) (by decide +kernel : decode k_R_init.2.1 808 = .ok (.iconst 0, 1)) ic_0) ?_
  refine (r_iconst (pc := 809) (by decide +kernel : decode k_R_init.2.1 809 = .ok (.iconst 0, 1)) ic_0) ?_
  obtain ⟨r785, hr785, h⟩ := bp_some h
  refine (q_callS (pc := 810) (As := [.int 102, .int 105, .int 114, .int 109, .int 0, .int 0, .int 0]) (st := [.int 4, .ref a783]) (st2 := [.long r785, .int 4, .ref a783]) rfl rfl (by decide +kernel : decode k_R_init.2.1 810 = .ok (.invokestatic 272, 3)) lc_12_272 mo_R_word ⟨Nat.le_of_ble_eq_true rfl, Nat.le_of_ble_eq_true rfl⟩ (Nat.le_of_ble_eq_true rfl) (Nat.le_of_ble_eq_true rfl) (R_word_run hr785)) ?_
  obtain ⟨t786, h⟩ := gt_some h
  obtain ⟨g787, h⟩ := gd_some h
  obtain ⟨m788, hm788, h⟩ := vb_some h
  have t789 : mT m788 (mC m729) = 32 := by rw [hm788]; exact t777
  have t790 : mT m788 a0 = 13 := by rw [hm788]; exact t778
  have t791 : mT m788 a741 = 35 := by rw [hm788]; exact t779
  have t792 : mT m788 a750 = 35 := by rw [hm788]; exact t780
  have t793 : mT m788 a760 = 35 := by rw [hm788]; exact t781
  have t794 : mT m788 a771 = 35 := by rw [hm788]; exact t782
  have t795 : mT m788 a783 = 35 := by rw [hm788]; exact t786
  refine (p_last (pc := 813) hm788 (by decide +kernel : decode k_R_init.2.1 813 = .ok (.lastore, 1)) t786 rfl g787) ?_
  refine (p_aload_n (pc := 814) (k := 0) (by decide +kernel : decode k_R_init.2.1 814 = .ok (.aload_n 0, 1)) rfl rfl) ?_
  obtain ⟨a796, o797, h⟩ := gs_some h
  refine (p_getr (pc := 815) o797 (by decide +kernel : decode k_R_init.2.1 815 = .ok (.getfield 34, 3)) lg_12_34 t790) ?_
  refine (r_iconst (pc := 818) (by decide +kernel : decode k_R_init.2.1 818 = .ok (.iconst 5, 1)) ic_5) ?_
  refine (r_bipush (pc := 819) (by decide +kernel : decode k_R_init.2.1 819 = .ok (.bipush (102), 2)) (by decide : _ = (102 : Int32))) ?_
  refine (r_bipush (pc := 821) (by decide +kernel : decode k_R_init.2.1 821 = .ok (.bipush (114), 2)) (by decide : _ = (114 : Int32))) ?_
  refine (r_bipush (pc := 823) (by decide +kernel : decode k_R_init.2.1 823 = .ok (.bipush (111), 2)) (by decide : _ = (111 : Int32))) ?_
  refine (r_bipush (pc := 825) (by decide +kernel : decode k_R_init.2.1 825 = .ok (.bipush (109), 2)) (by decide : _ = (109 : Int32))) ?_
  refine (r_iconst (pc := 827) (by decide +kernel : decode k_R_init.2.1 827 = .ok (.iconst 0, 1)) ic_0) ?_
  refine (r_iconst (pc := 828) (by decide +kernel : decode k_R_init.2.1 828 = .ok (.iconst 0, 1)) ic_0) ?_
  refine (r_iconst (pc := 829) (by decide +kernel : decode k_R_init.2.1 829 = .ok (.iconst 0, 1)) ic_0) ?_
  obtain ⟨r798, hr798, h⟩ := bp_some h
  refine (q_callS (pc := 830) (As := [.int 102, .int 114, .int 111, .int 109, .int 0, .int 0, .int 0]) (st := [.int 5, .ref a796]) (st2 := [.long r798, .int 5, .ref a796]) rfl rfl (by decide +kernel : decode k_R_init.2.1 830 = .ok (.invokestatic 272, 3)) lc_12_272 mo_R_word ⟨Nat.le_of_ble_eq_true rfl, Nat.le_of_ble_eq_true rfl⟩ (Nat.le_of_ble_eq_true rfl) (Nat.le_of_ble_eq_true rfl) (R_word_run hr798)) ?_
  obtain ⟨t799, h⟩ := gt_some h
  obtain ⟨g800, h⟩ := gd_some h
  obtain ⟨m801, hm801, h⟩ := vb_some h
  have t802 : mT m801 (mC m729) = 32 := by rw [hm801]; exact t789
  have t803 : mT m801 a0 = 13 := by rw [hm801]; exact t790
  have t804 : mT m801 a741 = 35 := by rw [hm801]; exact t791
  have t805 : mT m801 a750 = 35 := by rw [hm801]; exact t792
  have t806 : mT m801 a760 = 35 := by rw [hm801]; exact t793
  have t807 : mT m801 a771 = 35 := by rw [hm801]; exact t794
  have t808 : mT m801 a783 = 35 := by rw [hm801]; exact t795
  have t809 : mT m801 a796 = 35 := by rw [hm801]; exact t799
  refine (p_last (pc := 833) hm801 (by decide +kernel : decode k_R_init.2.1 833 = .ok (.lastore, 1)) t799 rfl g800) ?_
  refine (p_aload_n (pc := 834) (k := 0) (by decide +kernel : decode k_R_init.2.1 834 = .ok (.aload_n 0, 1)) rfl rfl) ?_
  obtain ⟨a810, o811, h⟩ := gs_some h
  refine (p_getr (pc := 835) o811 (by decide +kernel : decode k_R_init.2.1 835 = .ok (.getfield 34, 3)) lg_12_34 t803) ?_
  refine (r_bipush (pc := 838) (by decide +kernel : decode k_R_init.2.1 838 = .ok (.bipush (6), 2)) (by decide : _ = (6 : Int32))) ?_
  refine (r_bipush (pc := 840) (by decide +kernel : decode k_R_init.2.1 840 = .ok (.bipush (98), 2)) (by decide : _ = (98 : Int32))) ?_
  refine (r_bipush (pc := 842) (by decide +kernel : decode k_R_init.2.1 842 = .ok (.bipush (105), 2)) (by decide : _ = (105 : Int32))) ?_
  refine (r_bipush (pc := 844) (by decide +kernel : decode k_R_init.2.1 844 = .ok (.bipush (110), 2)) (by decide : _ = (110 : Int32))) ?_
  refine (r_bipush (pc := 846) (by decide +kernel : decode k_R_init.2.1 846 = .ok (.bipush (100), 2)) (by decide : _ = (100 : Int32))) ?_
  refine (r_bipush (pc := 848) (by decide +kernel : decode k_R_init.2.1 848 = .ok (.bipush (115), 2)) (by decide : _ = (115 : Int32))) ?_
  refine (r_iconst (pc := 850) (by decide +kernel : decode k_R_init.2.1 850 = .ok (.iconst 0, 1)) ic_0) ?_
  refine (r_iconst (pc := 851) (by decide +kernel : decode k_R_init.2.1 851 = .ok (.iconst 0, 1)) ic_0) ?_
  obtain ⟨r812, hr812, h⟩ := bp_some h
  refine (q_callS (pc := 852) (As := [.int 98, .int 105, .int 110, .int 100, .int 115, .int 0, .int 0]) (st := [.int 6, .ref a810]) (st2 := [.long r812, .int 6, .ref a810]) rfl rfl (by decide +kernel : decode k_R_init.2.1 852 = .ok (.invokestatic 272, 3)) lc_12_272 mo_R_word ⟨Nat.le_of_ble_eq_true rfl, Nat.le_of_ble_eq_true rfl⟩ (Nat.le_of_ble_eq_true rfl) (Nat.le_of_ble_eq_true rfl) (R_word_run hr812)) ?_
  obtain ⟨t813, h⟩ := gt_some h
  obtain ⟨g814, h⟩ := gd_some h
  obtain ⟨m815, hm815, h⟩ := vb_some h
  have t816 : mT m815 (mC m729) = 32 := by rw [hm815]; exact t802
  have t817 : mT m815 a0 = 13 := by rw [hm815]; exact t803
  have t818 : mT m815 a741 = 35 := by rw [hm815]; exact t804
  have t819 : mT m815 a750 = 35 := by rw [hm815]; exact t805
  have t820 : mT m815 a760 = 35 := by rw [hm815]; exact t806
  have t821 : mT m815 a771 = 35 := by rw [hm815]; exact t807
  have t822 : mT m815 a783 = 35 := by rw [hm815]; exact t808
  have t823 : mT m815 a796 = 35 := by rw [hm815]; exact t809
  have t824 : mT m815 a810 = 35 := by rw [hm815]; exact t813
  refine (p_last (pc := 855) hm815 (by decide +kernel : decode k_R_init.2.1 855 = .ok (.lastore, 1)) t813 rfl g814) ?_
  refine (p_aload_n (pc := 856) (k := 0) (by decide +kernel : decode k_R_init.2.1 856 = .ok (.aload_n 0, 1)) rfl rfl) ?_
  obtain ⟨a825, o826, h⟩ := gs_some h
  refine (p_getr (pc := 857) o826 (by decide +kernel : decode k_R_init.2.1 857 = .ok (.getfield 34, 3)) lg_12_34 t817) ?_
  refine (r_bipush (pc := 860) (by decide +kernel : decode k_R_init.2.1 860 = .ok (.bipush (7), 2)) (by decide : _ = (7 : Int32))) ?_
  refine (r_bipush (pc := 862) (by decide +kernel : decode k_R_init.2.1 862 = .ok (.bipush (105), 2)) (by decide : _ = (105 : Int32))) ?_
  refine (r_bipush (pc := 864) (by decide +kernel : decode k_R_init.2.1 864 = .ok (.bipush (102), 2)) (by decide : _ = (102 : Int32))) ?_
  refine (r_iconst (pc := 866) (by decide +kernel : decode k_R_init.2.1 866 = .ok (.iconst 0, 1)) ic_0) ?_
  refine (r_iconst (pc := 867) (by decide +kernel : decode k_R_init.2.1 867 = .ok (.iconst 0, 1)) ic_0) ?_
  refine (r_iconst (pc := 868) (by decide +kernel : decode k_R_init.2.1 868 = .ok (.iconst 0, 1)) ic_0) ?_
  refine (r_iconst (pc := 869) (by decide +kernel : decode k_R_init.2.1 869 = .ok (.iconst 0, 1)) ic_0) ?_
  refine (r_iconst (pc := 870) (by decide +kernel : decode k_R_init.2.1 870 = .ok (.iconst 0, 1)) ic_0) ?_
  obtain ⟨r827, hr827, h⟩ := bp_some h
  refine (q_callS (pc := 871) (As := [.int 105, .int 102, .int 0, .int 0, .int 0, .int 0, .int 0]) (st := [.int 7, .ref a825]) (st2 := [.long r827, .int 7, .ref a825]) rfl rfl (by decide +kernel : decode k_R_init.2.1 871 = .ok (.invokestatic 272, 3)) lc_12_272 mo_R_word ⟨Nat.le_of_ble_eq_true rfl, Nat.le_of_ble_eq_true rfl⟩ (Nat.le_of_ble_eq_true rfl) (Nat.le_of_ble_eq_true rfl) (R_word_run hr827)) ?_
  obtain ⟨t828, h⟩ := gt_some h
  obtain ⟨g829, h⟩ := gd_some h
  obtain ⟨m830, hm830, h⟩ := vb_some h
  have t831 : mT m830 (mC m729) = 32 := by rw [hm830]; exact t816
  have t832 : mT m830 a0 = 13 := by rw [hm830]; exact t817
  have t833 : mT m830 a741 = 35 := by rw [hm830]; exact t818
  have t834 : mT m830 a750 = 35 := by rw [hm830]; exact t819
  have t835 : mT m830 a760 = 35 := by rw [hm830]; exact t820
  have t836 : mT m830 a771 = 35 := by rw [hm830]; exact t821
  have t837 : mT m830 a783 = 35 := by rw [hm830]; exact t822
  have t838 : mT m830 a796 = 35 := by rw [hm830]; exact t823
  have t839 : mT m830 a810 = 35 := by rw [hm830]; exact t824
  have t840 : mT m830 a825 = 35 := by rw [hm830]; exact t828
  refine (p_last (pc := 874) hm830 (by decide +kernel : decode k_R_init.2.1 874 = .ok (.lastore, 1)) t828 rfl g829) ?_
  refine (p_aload_n (pc := 875) (k := 0) (by decide +kernel : decode k_R_init.2.1 875 = .ok (.aload_n 0, 1)) rfl rfl) ?_
  obtain ⟨a841, o842, h⟩ := gs_some h
  refine (p_getr (pc := 876) o842 (by decide +kernel : decode k_R_init.2.1 876 = .ok (.getfield 34, 3)) lg_12_34 t832) ?_
  refine (r_bipush (pc := 879) (by decide +kernel : decode k_R_init.2.1 879 = .ok (.bipush (8), 2)) (by decide : _ = (8 : Int32))) ?_
  refine (r_bipush (pc := 881) (by decide +kernel : decode k_R_init.2.1 881 = .ok (.bipush (111), 2)) (by decide : _ = (111 : Int32))) ?_
  refine (r_bipush (pc := 883) (by decide +kernel : decode k_R_init.2.1 883 = .ok (.bipush (118), 2)) (by decide : _ = (118 : Int32))) ?_
  refine (r_bipush (pc := 885) (by decide +kernel : decode k_R_init.2.1 885 = .ok (.bipush (101), 2)) (by decide : _ = (101 : Int32))) ?_
  refine (r_bipush (pc := 887) (by decide +kernel : decode k_R_init.2.1 887 = .ok (.bipush (114), 2)) (by decide : _ = (114 : Int32))) ?_
  refine (r_iconst (pc := 889) (by decide +kernel : decode k_R_init.2.1 889 = .ok (.iconst 0, 1)) ic_0) ?_
  refine (r_iconst (pc := 890) (by decide +kernel : decode k_R_init.2.1 890 = .ok (.iconst 0, 1)) ic_0) ?_
  refine (r_iconst (pc := 891) (by decide +kernel : decode k_R_init.2.1 891 = .ok (.iconst 0, 1)) ic_0) ?_
  obtain ⟨r843, hr843, h⟩ := bp_some h
  refine (q_callS (pc := 892) (As := [.int 111, .int 118, .int 101, .int 114, .int 0, .int 0, .int 0]) (st := [.int 8, .ref a841]) (st2 := [.long r843, .int 8, .ref a841]) rfl rfl (by decide +kernel : decode k_R_init.2.1 892 = .ok (.invokestatic 272, 3)) lc_12_272 mo_R_word ⟨Nat.le_of_ble_eq_true rfl, Nat.le_of_ble_eq_true rfl⟩ (Nat.le_of_ble_eq_true rfl) (Nat.le_of_ble_eq_true rfl) (R_word_run hr843)) ?_
  obtain ⟨t844, h⟩ := gt_some h
  obtain ⟨g845, h⟩ := gd_some h
  obtain ⟨m846, hm846, h⟩ := vb_some h
  have t847 : mT m846 (mC m729) = 32 := by rw [hm846]; exact t831
  have t848 : mT m846 a0 = 13 := by rw [hm846]; exact t832
  have t849 : mT m846 a741 = 35 := by rw [hm846]; exact t833
  have t850 : mT m846 a750 = 35 := by rw [hm846]; exact t834
  have t851 : mT m846 a760 = 35 := by rw [hm846]; exact t835
  have t852 : mT m846 a771 = 35 := by rw [hm846]; exact t836
  have t853 : mT m846 a783 = 35 := by rw [hm846]; exact t837
  have t854 : mT m846 a796 = 35 := by rw [hm846]; exact t838
  have t855 : mT m846 a810 = 35 := by rw [hm846]; exact t839
  have t856 : mT m846 a825 = 35 := by rw [hm846]; exact t840
  have t857 : mT m846 a841 = 35 := by rw [hm846]; exact t844
  refine (p_last (pc := 895) hm846 (by decide +kernel : decode k_R_init.2.1 895 = .ok (.lastore, 1)) t844 rfl g845) ?_
  refine (p_aload_n (pc := 896) (k := 0) (by decide +kernel : decode k_R_init.2.1 896 = .ok (.aload_n 0, 1)) rfl rfl) ?_
  obtain ⟨a858, o859, h⟩ := gs_some h
  refine (p_getr (pc := 897) o859 (by decide +kernel : decode k_R_init.2.1 897 = .ok (.getfield 34, 3)) lg_12_34 t848) ?_
  refine (r_bipush (pc := 900) (by decide +kernel : decode k_R_init.2.1 900 = .ok (.bipush (9), 2)) (by decide : _ = (9 : Int32))) ?_
  refine (r_bipush (pc := 902) (by decide +kernel : decode k_R_init.2.1 902 = .ok (.bipush (99), 2)) (by decide : _ = (99 : Int32))) ?_
  refine (r_bipush (pc := 904) (by decide +kernel : decode k_R_init.2.1 904 = .ok (.bipush (108), 2)) (by decide : _ = (108 : Int32))) ?_
  refine (r_bipush (pc := 906) (by decide +kernel : decode k_R_init.2.1 906 = .ok (.bipush (97), 2)) (by decide : _ = (97 : Int32))) ?_
  refine (r_bipush (pc := 908) (by decide +kernel : decode k_R_init.2.1 908 = .ok (.bipush (115), 2)) (by decide : _ = (115 : Int32))) ?_
  refine (r_bipush (pc := 910) (by decide +kernel : decode k_R_init.2.1 910 = .ok (.bipush (115), 2)) (by decide : _ = (115 : Int32))) ?_
  refine (r_iconst (pc := 912) (by decide +kernel : decode k_R_init.2.1 912 = .ok (.iconst 0, 1)) ic_0) ?_
  refine (r_iconst (pc := 913) (by decide +kernel : decode k_R_init.2.1 913 = .ok (.iconst 0, 1)) ic_0) ?_
  obtain ⟨r860, hr860, h⟩ := bp_some h
  refine (q_callS (pc := 914) (As := [.int 99, .int 108, .int 97, .int 115, .int 115, .int 0, .int 0]) (st := [.int 9, .ref a858]) (st2 := [.long r860, .int 9, .ref a858]) rfl rfl (by decide +kernel : decode k_R_init.2.1 914 = .ok (.invokestatic 272, 3)) lc_12_272 mo_R_word ⟨Nat.le_of_ble_eq_true rfl, Nat.le_of_ble_eq_true rfl⟩ (Nat.le_of_ble_eq_true rfl) (Nat.le_of_ble_eq_true rfl) (R_word_run hr860)) ?_
  obtain ⟨t861, h⟩ := gt_some h
  obtain ⟨g862, h⟩ := gd_some h
  obtain ⟨m863, hm863, h⟩ := vb_some h
  have t864 : mT m863 (mC m729) = 32 := by rw [hm863]; exact t847
  have t865 : mT m863 a0 = 13 := by rw [hm863]; exact t848
  have t866 : mT m863 a741 = 35 := by rw [hm863]; exact t849
  have t867 : mT m863 a750 = 35 := by rw [hm863]; exact t850
  have t868 : mT m863 a760 = 35 := by rw [hm863]; exact t851
  have t869 : mT m863 a771 = 35 := by rw [hm863]; exact t852
  have t870 : mT m863 a783 = 35 := by rw [hm863]; exact t853
  have t871 : mT m863 a796 = 35 := by rw [hm863]; exact t854
  have t872 : mT m863 a810 = 35 := by rw [hm863]; exact t855
  have t873 : mT m863 a825 = 35 := by rw [hm863]; exact t856
  have t874 : mT m863 a841 = 35 := by rw [hm863]; exact t857
  have t875 : mT m863 a858 = 35 := by rw [hm863]; exact t861
  refine (p_last (pc := 917) hm863 (by decide +kernel : decode k_R_init.2.1 917 = .ok (.lastore, 1)) t861 rfl g862) ?_
  refine (p_aload_n (pc := 918) (k := 0) (by decide +kernel : decode k_R_init.2.1 918 = .ok (.aload_n 0, 1)) rfl rfl) ?_
  obtain ⟨a876, o877, h⟩ := gs_some h
  refine (p_getr (pc := 919) o877 (by decide +kernel : decode k_R_init.2.1 919 = .ok (.getfield 34, 3)) lg_12_34 t865) ?_
  refine (r_bipush (pc := 922) (by decide +kernel : decode k_R_init.2.1 922 = .ok (.bipush (10), 2)) (by decide : _ = (10 : Int32))) ?_
  refine (r_bipush (pc := 924) (by decide +kernel : decode k_R_init.2.1 924 = .ok (.bipush (116), 2)) (by decide : _ = (116 : Int32))) ?_
  refine (r_bipush (pc := 926) (by decide +kernel : decode k_R_init.2.1 926 = .ok (.bipush (97), 2)) (by decide : _ = (97 : Int32))) ?_
  refine (r_bipush (pc := 928) (by decide +kernel : decode k_R_init.2.1 928 = .ok (.bipush (115), 2)) (by decide : _ = (115 : Int32))) ?_
  refine (r_bipush (pc := 930) (by decide +kernel : decode k_R_init.2.1 930 = .ok (.bipush (107), 2)) (by decide : _ = (107 : Int32))) ?_
  refine (r_bipush (pc := 932) (by decide +kernel : decode k_R_init.2.1 932 = .ok (.bipush (115), 2)) (by decide : _ = (115 : Int32))) ?_
  refine (r_iconst (pc := 934) (by decide +kernel : decode k_R_init.2.1 934 = .ok (.iconst 0, 1)) ic_0) ?_
  refine (r_iconst (pc := 935) (by decide +kernel : decode k_R_init.2.1 935 = .ok (.iconst 0, 1)) ic_0) ?_
  obtain ⟨r878, hr878, h⟩ := bp_some h
  refine (q_callS (pc := 936) (As := [.int 116, .int 97, .int 115, .int 107, .int 115, .int 0, .int 0]) (st := [.int 10, .ref a876]) (st2 := [.long r878, .int 10, .ref a876]) rfl rfl (by decide +kernel : decode k_R_init.2.1 936 = .ok (.invokestatic 272, 3)) lc_12_272 mo_R_word ⟨Nat.le_of_ble_eq_true rfl, Nat.le_of_ble_eq_true rfl⟩ (Nat.le_of_ble_eq_true rfl) (Nat.le_of_ble_eq_true rfl) (R_word_run hr878)) ?_
  obtain ⟨t879, h⟩ := gt_some h
  obtain ⟨g880, h⟩ := gd_some h
  obtain ⟨m881, hm881, h⟩ := vb_some h
  have t882 : mT m881 (mC m729) = 32 := by rw [hm881]; exact t864
  have t883 : mT m881 a0 = 13 := by rw [hm881]; exact t865
  have t884 : mT m881 a741 = 35 := by rw [hm881]; exact t866
  have t885 : mT m881 a750 = 35 := by rw [hm881]; exact t867
  have t886 : mT m881 a760 = 35 := by rw [hm881]; exact t868
  have t887 : mT m881 a771 = 35 := by rw [hm881]; exact t869
  have t888 : mT m881 a783 = 35 := by rw [hm881]; exact t870
  have t889 : mT m881 a796 = 35 := by rw [hm881]; exact t871
  have t890 : mT m881 a810 = 35 := by rw [hm881]; exact t872
  have t891 : mT m881 a825 = 35 := by rw [hm881]; exact t873
  have t892 : mT m881 a841 = 35 := by rw [hm881]; exact t874
  have t893 : mT m881 a858 = 35 := by rw [hm881]; exact t875
  have t894 : mT m881 a876 = 35 := by rw [hm881]; exact t879
  refine (p_last (pc := 939) hm881 (by decide +kernel : decode k_R_init.2.1 939 = .ok (.lastore, 1)) t879 rfl g880) ?_
  refine (p_aload_n (pc := 940) (k := 0) (by decide +kernel : decode k_R_init.2.1 940 = .ok (.aload_n 0, 1)) rfl rfl) ?_
  obtain ⟨a895, o896, h⟩ := gs_some h
  refine (p_getr (pc := 941) o896 (by decide +kernel : decode k_R_init.2.1 941 = .ok (.getfield 34, 3)) lg_12_34 t883) ?_
  refine (r_bipush (pc := 944) (by decide +kernel : decode k_R_init.2.1 944 = .ok (.bipush (11), 2)) (by decide : _ = (11 : Int32))) ?_
  refine (r_bipush (pc := 946) (by decide +kernel : decode k_R_init.2.1 946 = .ok (.bipush (109), 2)) (by decide : _ = (109 : Int32))) ?_
  refine (r_bipush (pc := 948) (by decide +kernel : decode k_R_init.2.1 948 = .ok (.bipush (97), 2)) (by decide : _ = (97 : Int32))) ?_
  refine (r_bipush (pc := 950) (by decide +kernel : decode k_R_init.2.1 950 = .ok (.bipush (114), 2)) (by decide : _ = (114 : Int32))) ?_
  refine (r_bipush (pc := 952) (by decide +kernel : decode k_R_init.2.1 952 = .ok (.bipush (103), 2)) (by decide : _ = (103 : Int32))) ?_
  refine (r_bipush (pc := 954) (by decide +kernel : decode k_R_init.2.1 954 = .ok (.bipush (105), 2)) (by decide : _ = (105 : Int32))) ?_
  refine (r_bipush (pc := 956) (by decide +kernel : decode k_R_init.2.1 956 = .ok (.bipush (110), 2)) (by decide : _ = (110 : Int32))) ?_
  refine (r_iconst (pc := 958) (by decide +kernel : decode k_R_init.2.1 958 = .ok (.iconst 0, 1)) ic_0) ?_
  obtain ⟨r897, hr897, h⟩ := bp_some h
  refine (q_callS (pc := 959) (As := [.int 109, .int 97, .int 114, .int 103, .int 105, .int 110, .int 0]) (st := [.int 11, .ref a895]) (st2 := [.long r897, .int 11, .ref a895]) rfl rfl (by decide +kernel : decode k_R_init.2.1 959 = .ok (.invokestatic 272, 3)) lc_12_272 mo_R_word ⟨Nat.le_of_ble_eq_true rfl, Nat.le_of_ble_eq_true rfl⟩ (Nat.le_of_ble_eq_true rfl) (Nat.le_of_ble_eq_true rfl) (R_word_run hr897)) ?_
  obtain ⟨t898, h⟩ := gt_some h
  obtain ⟨g899, h⟩ := gd_some h
  obtain ⟨m900, hm900, h⟩ := vb_some h
  have t901 : mT m900 (mC m729) = 32 := by rw [hm900]; exact t882
  have t902 : mT m900 a0 = 13 := by rw [hm900]; exact t883
  have t903 : mT m900 a741 = 35 := by rw [hm900]; exact t884
  have t904 : mT m900 a750 = 35 := by rw [hm900]; exact t885
  have t905 : mT m900 a760 = 35 := by rw [hm900]; exact t886
  have t906 : mT m900 a771 = 35 := by rw [hm900]; exact t887
  have t907 : mT m900 a783 = 35 := by rw [hm900]; exact t888
  have t908 : mT m900 a796 = 35 := by rw [hm900]; exact t889
  have t909 : mT m900 a810 = 35 := by rw [hm900]; exact t890
  have t910 : mT m900 a825 = 35 := by rw [hm900]; exact t891
  have t911 : mT m900 a841 = 35 := by rw [hm900]; exact t892
  have t912 : mT m900 a858 = 35 := by rw [hm900]; exact t893
  have t913 : mT m900 a876 = 35 := by rw [hm900]; exact t894
  have t914 : mT m900 a895 = 35 := by rw [hm900]; exact t898
  refine (p_last (pc := 962) hm900 (by decide +kernel : decode k_R_init.2.1 962 = .ok (.lastore, 1)) t898 rfl g899) ?_
  refine (p_aload_n (pc := 963) (k := 0) (by decide +kernel : decode k_R_init.2.1 963 = .ok (.aload_n 0, 1)) rfl rfl) ?_
  obtain ⟨a915, o916, h⟩ := gs_some h
  refine (p_getr (pc := 964) o916 (by decide +kernel : decode k_R_init.2.1 964 = .ok (.getfield 34, 3)) lg_12_34 t902) ?_
  refine (r_bipush (pc := 967) (by decide +kernel : decode k_R_init.2.1 967 = .ok (.bipush (12), 2)) (by decide : _ = (12 : Int32))) ?_
  refine (r_bipush (pc := 969) (by decide +kernel : decode k_R_init.2.1 969 = .ok (.bipush (102), 2)) (by decide : _ = (102 : Int32))) ?_
  refine (r_bipush (pc := 971) (by decide +kernel : decode k_R_init.2.1 971 = .ok (.bipush (111), 2)) (by decide : _ = (111 : Int32))) ?_
  refine (r_bipush (pc := 973) (by decide +kernel : decode k_R_init.2.1 973 = .ok (.bipush (108), 2)) (by decide : _ = (108 : Int32))) ?_
  refine (r_bipush (pc := 975) (by decide +kernel : decode k_R_init.2.1 975 = .ok (.bipush (108), 2)) (by decide : _ = (108 : Int32))) ?_
  refine (r_bipush (pc := 977) (by decide +kernel : decode k_R_init.2.1 977 = .ok (.bipush (111), 2)) (by decide : _ = (111 : Int32))) ?_
  refine (r_bipush (pc := 979) (by decide +kernel : decode k_R_init.2.1 979 = .ok (.bipush (119), 2)) (by decide : _ = (119 : Int32))) ?_
  refine (r_bipush (pc := 981) (by decide +kernel : decode k_R_init.2.1 981 = .ok (.bipush (115), 2)) (by decide : _ = (115 : Int32))) ?_
  obtain ⟨r917, hr917, h⟩ := bp_some h
  refine (q_callS (pc := 983) (As := [.int 102, .int 111, .int 108, .int 108, .int 111, .int 119, .int 115]) (st := [.int 12, .ref a915]) (st2 := [.long r917, .int 12, .ref a915]) rfl rfl (by decide +kernel : decode k_R_init.2.1 983 = .ok (.invokestatic 272, 3)) lc_12_272 mo_R_word ⟨Nat.le_of_ble_eq_true rfl, Nat.le_of_ble_eq_true rfl⟩ (Nat.le_of_ble_eq_true rfl) (Nat.le_of_ble_eq_true rfl) (R_word_run hr917)) ?_
  obtain ⟨t918, h⟩ := gt_some h
  obtain ⟨g919, h⟩ := gd_some h
  obtain ⟨m920, hm920, h⟩ := vb_some h
  have t921 : mT m920 (mC m729) = 32 := by rw [hm920]; exact t901
  have t922 : mT m920 a0 = 13 := by rw [hm920]; exact t902
  have t923 : mT m920 a741 = 35 := by rw [hm920]; exact t903
  have t924 : mT m920 a750 = 35 := by rw [hm920]; exact t904
  have t925 : mT m920 a760 = 35 := by rw [hm920]; exact t905
  have t926 : mT m920 a771 = 35 := by rw [hm920]; exact t906
  have t927 : mT m920 a783 = 35 := by rw [hm920]; exact t907
  have t928 : mT m920 a796 = 35 := by rw [hm920]; exact t908
  have t929 : mT m920 a810 = 35 := by rw [hm920]; exact t909
  have t930 : mT m920 a825 = 35 := by rw [hm920]; exact t910
  have t931 : mT m920 a841 = 35 := by rw [hm920]; exact t911
  have t932 : mT m920 a858 = 35 := by rw [hm920]; exact t912
  have t933 : mT m920 a876 = 35 := by rw [hm920]; exact t913
  have t934 : mT m920 a895 = 35 := by rw [hm920]; exact t914
  have t935 : mT m920 a915 = 35 := by rw [hm920]; exact t918
  refine (p_last (pc := 986) hm920 (by decide +kernel : decode k_R_init.2.1 986 = .ok (.lastore, 1)) t918 rfl g919) ?_
  refine (p_aload_n (pc := 987) (k := 0) (by decide +kernel : decode k_R_init.2.1 987 = .ok (.aload_n 0, 1)) rfl rfl) ?_
  obtain ⟨a936, o937, h⟩ := gs_some h
  refine (p_getr (pc := 988) o937 (by decide +kernel : decode k_R_init.2.1 988 = .ok (.getfield 34, 3)) lg_12_34 t922) ?_
  refine (r_bipush (pc := 991) (by decide +kernel : decode k_R_init.2.1 991 = .ok (.bipush (13), 2)) (by decide : _ = (13 : Int32))) ?_
  refine (r_bipush (pc := 993) (by decide +kernel : decode k_R_init.2.1 993 = .ok (.bipush (112), 2)) (by decide : _ = (112 : Int32))) ?_
  refine (r_bipush (pc := 995) (by decide +kernel : decode k_R_init.2.1 995 = .ok (.bipush (108), 2)) (by decide : _ = (108 : Int32))) ?_
  refine (r_bipush (pc := 997) (by decide +kernel : decode k_R_init.2.1 997 = .ok (.bipush (117), 2)) (by decide : _ = (117 : Int32))) ?_
  refine (r_bipush (pc := 999) (by decide +kernel : decode k_R_init.2.1 999 = .ok (.bipush (115), 2)) (by decide : _ = (115 : Int32))) ?_
  refine (r_iconst (pc := 1001) (by decide +kernel : decode k_R_init.2.1 1001 = .ok (.iconst 0, 1)) ic_0) ?_
  refine (r_iconst (pc := 1002) (by decide +kernel : decode k_R_init.2.1 1002 = .ok (.iconst 0, 1)) ic_0) ?_
  refine (r_iconst (pc := 1003) (by decide +kernel : decode k_R_init.2.1 1003 = .ok (.iconst 0, 1)) ic_0) ?_
  obtain ⟨r938, hr938, h⟩ := bp_some h
  refine (q_callS (pc := 1004) (As := [.int 112, .int 108, .int 117, .int 115, .int 0, .int 0, .int 0]) (st := [.int 13, .ref a936]) (st2 := [.long r938, .int 13, .ref a936]) rfl rfl (by decide +kernel : decode k_R_init.2.1 1004 = .ok (.invokestatic 272, 3)) lc_12_272 mo_R_word ⟨Nat.le_of_ble_eq_true rfl, Nat.le_of_ble_eq_true rfl⟩ (Nat.le_of_ble_eq_true rfl) (Nat.le_of_ble_eq_true rfl) (R_word_run hr938)) ?_
  obtain ⟨t939, h⟩ := gt_some h
  obtain ⟨g940, h⟩ := gd_some h
  obtain ⟨m941, hm941, h⟩ := vb_some h
  have t942 : mT m941 (mC m729) = 32 := by rw [hm941]; exact t921
  have t943 : mT m941 a0 = 13 := by rw [hm941]; exact t922
  have t944 : mT m941 a741 = 35 := by rw [hm941]; exact t923
  have t945 : mT m941 a750 = 35 := by rw [hm941]; exact t924
  have t946 : mT m941 a760 = 35 := by rw [hm941]; exact t925
  have t947 : mT m941 a771 = 35 := by rw [hm941]; exact t926
  have t948 : mT m941 a783 = 35 := by rw [hm941]; exact t927
  have t949 : mT m941 a796 = 35 := by rw [hm941]; exact t928
  have t950 : mT m941 a810 = 35 := by rw [hm941]; exact t929
  have t951 : mT m941 a825 = 35 := by rw [hm941]; exact t930
  have t952 : mT m941 a841 = 35 := by rw [hm941]; exact t931
  have t953 : mT m941 a858 = 35 := by rw [hm941]; exact t932
  have t954 : mT m941 a876 = 35 := by rw [hm941]; exact t933
  have t955 : mT m941 a895 = 35 := by rw [hm941]; exact t934
  have t956 : mT m941 a915 = 35 := by rw [hm941]; exact t935
  have t957 : mT m941 a936 = 35 := by rw [hm941]; exact t939
  refine (p_last (pc := 1007) hm941 (by decide +kernel : decode k_R_init.2.1 1007 = .ok (.lastore, 1)) t939 rfl g940) ?_
  refine (p_aload_n (pc := 1008) (k := 0) (by decide +kernel : decode k_R_init.2.1 1008 = .ok (.aload_n 0, 1)) rfl rfl) ?_
  obtain ⟨a958, o959, h⟩ := gs_some h
  refine (p_getr (pc := 1009) o959 (by decide +kernel : decode k_R_init.2.1 1009 = .ok (.getfield 34, 3)) lg_12_34 t943) ?_
  refine (r_bipush (pc := 1012) (by decide +kernel : decode k_R_init.2.1 1012 = .ok (.bipush (14), 2)) (by decide : _ = (14 : Int32))) ?_
  refine (r_bipush (pc := 1014) (by decide +kernel : decode k_R_init.2.1 1014 = .ok (.bipush (99), 2)) (by decide : _ = (99 : Int32))) ?_
  refine (r_bipush (pc := 1016) (by decide +kernel : decode k_R_init.2.1 1016 = .ok (.bipush (104), 2)) (by decide : _ = (104 : Int32))) ?_
  refine (r_bipush (pc := 1018) (by decide +kernel : decode k_R_init.2.1 1018 = .ok (.bipush (111), 2)) (by decide : _ = (111 : Int32))) ?_
  refine (r_bipush (pc := 1020) (by decide +kernel : decode k_R_init.2.1 1020 = .ok (.bipush (111), 2)) (by decide : _ = (111 : Int32))) ?_
  refine (r_bipush (pc := 1022) (by decide +kernel : decode k_R_init.2.1 1022 = .ok (.bipush (115), 2)) (by decide : _ = (115 : Int32))) ?_
  refine (r_bipush (pc := 1024) (by decide +kernel : decode k_R_init.2.1 1024 = .ok (.bipush (101), 2)) (by decide : _ = (101 : Int32))) ?_
  refine (r_iconst (pc := 1026) (by decide +kernel : decode k_R_init.2.1 1026 = .ok (.iconst 0, 1)) ic_0) ?_
  obtain ⟨r960, hr960, h⟩ := bp_some h
  refine (q_callS (pc := 1027) (As := [.int 99, .int 104, .int 111, .int 111, .int 115, .int 101, .int 0]) (st := [.int 14, .ref a958]) (st2 := [.long r960, .int 14, .ref a958]) rfl rfl (by decide +kernel : decode k_R_init.2.1 1027 = .ok (.invokestatic 272, 3)) lc_12_272 mo_R_word ⟨Nat.le_of_ble_eq_true rfl, Nat.le_of_ble_eq_true rfl⟩ (Nat.le_of_ble_eq_true rfl) (Nat.le_of_ble_eq_true rfl) (R_word_run hr960)) ?_
  obtain ⟨t961, h⟩ := gt_some h
  obtain ⟨g962, h⟩ := gd_some h
  obtain ⟨m963, hm963, h⟩ := vb_some h
  have t964 : mT m963 (mC m729) = 32 := by rw [hm963]; exact t942
  have t965 : mT m963 a0 = 13 := by rw [hm963]; exact t943
  have t966 : mT m963 a741 = 35 := by rw [hm963]; exact t944
  have t967 : mT m963 a750 = 35 := by rw [hm963]; exact t945
  have t968 : mT m963 a760 = 35 := by rw [hm963]; exact t946
  have t969 : mT m963 a771 = 35 := by rw [hm963]; exact t947
  have t970 : mT m963 a783 = 35 := by rw [hm963]; exact t948
  have t971 : mT m963 a796 = 35 := by rw [hm963]; exact t949
  have t972 : mT m963 a810 = 35 := by rw [hm963]; exact t950
  have t973 : mT m963 a825 = 35 := by rw [hm963]; exact t951
  have t974 : mT m963 a841 = 35 := by rw [hm963]; exact t952
  have t975 : mT m963 a858 = 35 := by rw [hm963]; exact t953
  have t976 : mT m963 a876 = 35 := by rw [hm963]; exact t954
  have t977 : mT m963 a895 = 35 := by rw [hm963]; exact t955
  have t978 : mT m963 a915 = 35 := by rw [hm963]; exact t956
  have t979 : mT m963 a936 = 35 := by rw [hm963]; exact t957
  have t980 : mT m963 a958 = 35 := by rw [hm963]; exact t961
  refine (p_last (pc := 1030) hm963 (by decide +kernel : decode k_R_init.2.1 1030 = .ok (.lastore, 1)) t961 rfl g962) ?_
  refine (p_aload_n (pc := 1031) (k := 0) (by decide +kernel : decode k_R_init.2.1 1031 = .ok (.aload_n 0, 1)) rfl rfl) ?_
  obtain ⟨a981, o982, h⟩ := gs_some h
  refine (p_getr (pc := 1032) o982 (by decide +kernel : decode k_R_init.2.1 1032 = .ok (.getfield 34, 3)) lg_12_34 t965) ?_
  refine (r_bipush (pc := 1035) (by decide +kernel : decode k_R_init.2.1 1035 = .ok (.bipush (15), 2)) (by decide : _ = (15 : Int32))) ?_
  refine (r_bipush (pc := 1037) (by decide +kernel : decode k_R_init.2.1 1037 = .ok (.bipush (101), 2)) (by decide : _ = (101 : Int32))) ?_
  refine (r_bipush (pc := 1039) (by decide +kernel : decode k_R_init.2.1 1039 = .ok (.bipush (97), 2)) (by decide : _ = (97 : Int32))) ?_
  refine (r_bipush (pc := 1041) (by decide +kernel : decode k_R_init.2.1 1041 = .ok (.bipush (99), 2)) (by decide : _ = (99 : Int32))) ?_
  refine (r_bipush (pc := 1043) (by decide +kernel : decode k_R_init.2.1 1043 = .ok (.bipush (104), 2)) (by decide : _ = (104 : Int32))) ?_
  refine (r_iconst (pc := 1045) (by decide +kernel : decode k_R_init.2.1 1045 = .ok (.iconst 0, 1)) ic_0) ?_
  refine (r_iconst (pc := 1046) (by decide +kernel : decode k_R_init.2.1 1046 = .ok (.iconst 0, 1)) ic_0) ?_
  refine (r_iconst (pc := 1047) (by decide +kernel : decode k_R_init.2.1 1047 = .ok (.iconst 0, 1)) ic_0) ?_
  obtain ⟨r983, hr983, h⟩ := bp_some h
  refine (q_callS (pc := 1048) (As := [.int 101, .int 97, .int 99, .int 104, .int 0, .int 0, .int 0]) (st := [.int 15, .ref a981]) (st2 := [.long r983, .int 15, .ref a981]) rfl rfl (by decide +kernel : decode k_R_init.2.1 1048 = .ok (.invokestatic 272, 3)) lc_12_272 mo_R_word ⟨Nat.le_of_ble_eq_true rfl, Nat.le_of_ble_eq_true rfl⟩ (Nat.le_of_ble_eq_true rfl) (Nat.le_of_ble_eq_true rfl) (R_word_run hr983)) ?_
  obtain ⟨t984, h⟩ := gt_some h
  obtain ⟨g985, h⟩ := gd_some h
  obtain ⟨m986, hm986, h⟩ := vb_some h
  have t987 : mT m986 (mC m729) = 32 := by rw [hm986]; exact t964
  have t988 : mT m986 a0 = 13 := by rw [hm986]; exact t965
  have t989 : mT m986 a741 = 35 := by rw [hm986]; exact t966
  have t990 : mT m986 a750 = 35 := by rw [hm986]; exact t967
  have t991 : mT m986 a760 = 35 := by rw [hm986]; exact t968
  have t992 : mT m986 a771 = 35 := by rw [hm986]; exact t969
  have t993 : mT m986 a783 = 35 := by rw [hm986]; exact t970
  have t994 : mT m986 a796 = 35 := by rw [hm986]; exact t971
  have t995 : mT m986 a810 = 35 := by rw [hm986]; exact t972
  have t996 : mT m986 a825 = 35 := by rw [hm986]; exact t973
  have t997 : mT m986 a841 = 35 := by rw [hm986]; exact t974
  have t998 : mT m986 a858 = 35 := by rw [hm986]; exact t975
  have t999 : mT m986 a876 = 35 := by rw [hm986]; exact t976
  have t1000 : mT m986 a895 = 35 := by rw [hm986]; exact t977
  have t1001 : mT m986 a915 = 35 := by rw [hm986]; exact t978
  have t1002 : mT m986 a936 = 35 := by rw [hm986]; exact t979
  have t1003 : mT m986 a958 = 35 := by rw [hm986]; exact t980
  have t1004 : mT m986 a981 = 35 := by rw [hm986]; exact t984
  refine (p_last (pc := 1051) hm986 (by decide +kernel : decode k_R_init.2.1 1051 = .ok (.lastore, 1)) t984 rfl g985) ?_
  refine (p_aload_n (pc := 1052) (k := 0) (by decide +kernel : decode k_R_init.2.1 1052 = .ok (.aload_n 0, 1)) rfl rfl) ?_
  obtain ⟨a1005, o1006, h⟩ := gs_some h
  refine (p_getr (pc := 1053) o1006 (by decide +kernel : decode k_R_init.2.1 1053 = .ok (.getfield 34, 3)) lg_12_34 t988) ?_
  refine (r_bipush (pc := 1056) (by decide +kernel : decode k_R_init.2.1 1056 = .ok (.bipush (16), 2)) (by decide : _ = (16 : Int32))) ?_
  refine (r_bipush (pc := 1058) (by decide +kernel : decode k_R_init.2.1 1058 = .ok (.bipush (109), 2)) (by decide : _ = (109 : Int32))) ?_
  refine (r_bipush (pc := 1060) (by decide +kernel : decode k_R_init.2.1 1060 = .ok (.bipush (111), 2)) (by decide : _ = (111 : Int32))) ?_
  refine (r_bipush (pc := 1062) (by decide +kernel : decode k_R_init.2.1 1062 = .ok (.bipush (115), 2)) (by decide : _ = (115 : Int32))) ?_
  refine (r_bipush (pc := 1064) (by decide +kernel : decode k_R_init.2.1 1064 = .ok (.bipush (116), 2)) (by decide : _ = (116 : Int32))) ?_
  refine (r_iconst (pc := 1066) (by decide +kernel : decode k_R_init.2.1 1066 = .ok (.iconst 0, 1)) ic_0) ?_
  refine (r_iconst (pc := 1067) (by decide +kernel : decode k_R_init.2.1 1067 = .ok (.iconst 0, 1)) ic_0) ?_
  refine (r_iconst (pc := 1068) (by decide +kernel : decode k_R_init.2.1 1068 = .ok (.iconst 0, 1)) ic_0) ?_
  obtain ⟨r1007, hr1007, h⟩ := bp_some h
  refine (q_callS (pc := 1069) (As := [.int 109, .int 111, .int 115, .int 116, .int 0, .int 0, .int 0]) (st := [.int 16, .ref a1005]) (st2 := [.long r1007, .int 16, .ref a1005]) rfl rfl (by decide +kernel : decode k_R_init.2.1 1069 = .ok (.invokestatic 272, 3)) lc_12_272 mo_R_word ⟨Nat.le_of_ble_eq_true rfl, Nat.le_of_ble_eq_true rfl⟩ (Nat.le_of_ble_eq_true rfl) (Nat.le_of_ble_eq_true rfl) (R_word_run hr1007)) ?_
  obtain ⟨t1008, h⟩ := gt_some h
  obtain ⟨g1009, h⟩ := gd_some h
  obtain ⟨m1010, hm1010, h⟩ := vb_some h
  have t1011 : mT m1010 (mC m729) = 32 := by rw [hm1010]; exact t987
  have t1012 : mT m1010 a0 = 13 := by rw [hm1010]; exact t988
  have t1013 : mT m1010 a741 = 35 := by rw [hm1010]; exact t989
  have t1014 : mT m1010 a750 = 35 := by rw [hm1010]; exact t990
  have t1015 : mT m1010 a760 = 35 := by rw [hm1010]; exact t991
  have t1016 : mT m1010 a771 = 35 := by rw [hm1010]; exact t992
  have t1017 : mT m1010 a783 = 35 := by rw [hm1010]; exact t993
  have t1018 : mT m1010 a796 = 35 := by rw [hm1010]; exact t994
  have t1019 : mT m1010 a810 = 35 := by rw [hm1010]; exact t995
  have t1020 : mT m1010 a825 = 35 := by rw [hm1010]; exact t996
  have t1021 : mT m1010 a841 = 35 := by rw [hm1010]; exact t997
  have t1022 : mT m1010 a858 = 35 := by rw [hm1010]; exact t998
  have t1023 : mT m1010 a876 = 35 := by rw [hm1010]; exact t999
  have t1024 : mT m1010 a895 = 35 := by rw [hm1010]; exact t1000
  have t1025 : mT m1010 a915 = 35 := by rw [hm1010]; exact t1001
  have t1026 : mT m1010 a936 = 35 := by rw [hm1010]; exact t1002
  have t1027 : mT m1010 a958 = 35 := by rw [hm1010]; exact t1003
  have t1028 : mT m1010 a981 = 35 := by rw [hm1010]; exact t1004
  have t1029 : mT m1010 a1005 = 35 := by rw [hm1010]; exact t1008
  refine (p_last (pc := 1072) hm1010 (by decide +kernel : decode k_R_init.2.1 1072 = .ok (.lastore, 1)) t1008 rfl g1009) ?_
  refine (p_aload_n (pc := 1073) (k := 0) (by decide +kernel : decode k_R_init.2.1 1073 = .ok (.aload_n 0, 1)) rfl rfl) ?_
  obtain ⟨a1030, o1031, h⟩ := gs_some h
  refine (p_getr (pc := 1074) o1031 (by decide +kernel : decode k_R_init.2.1 1074 = .ok (.getfield 34, 3)) lg_12_34 t1012) ?_
  refine (r_bipush (pc := 1077) (by decide +kernel : decode k_R_init.2.1 1077 = .ok (.bipush (17), 2)) (by decide : _ = (17 : Int32))) ?_
  refine (r_bipush (pc := 1079) (by decide +kernel : decode k_R_init.2.1 1079 = .ok (.bipush (104), 2)) (by decide : _ = (104 : Int32))) ?_
  refine (r_bipush (pc := 1081) (by decide +kernel : decode k_R_init.2.1 1081 = .ok (.bipush (105), 2)) (by decide : _ = (105 : Int32))) ?_
  refine (r_bipush (pc := 1083) (by decide +kernel : decode k_R_init.2.1 1083 = .ok (.bipush (103), 2)) (by decide : _ = (103 : Int32))) ?_
  refine (r_bipush (pc := 1085) (by decide +kernel : decode k_R_init.2.1 1085 = .ok (.bipush (104), 2)) (by decide : _ = (104 : Int32))) ?_
  refine (r_bipush (pc := 1087) (by decide +kernel : decode k_R_init.2.1 1087 = .ok (.bipush (101), 2)) (by decide : _ = (101 : Int32))) ?_
  refine (r_bipush (pc := 1089) (by decide +kernel : decode k_R_init.2.1 1089 = .ok (.bipush (115), 2)) (by decide : _ = (115 : Int32))) ?_
  refine (r_bipush (pc := 1091) (by decide +kernel : decode k_R_init.2.1 1091 = .ok (.bipush (116), 2)) (by decide : _ = (116 : Int32))) ?_
  obtain ⟨r1032, hr1032, h⟩ := bp_some h
  refine (q_callS (pc := 1093) (As := [.int 104, .int 105, .int 103, .int 104, .int 101, .int 115, .int 116]) (st := [.int 17, .ref a1030]) (st2 := [.long r1032, .int 17, .ref a1030]) rfl rfl (by decide +kernel : decode k_R_init.2.1 1093 = .ok (.invokestatic 272, 3)) lc_12_272 mo_R_word ⟨Nat.le_of_ble_eq_true rfl, Nat.le_of_ble_eq_true rfl⟩ (Nat.le_of_ble_eq_true rfl) (Nat.le_of_ble_eq_true rfl) (R_word_run hr1032)) ?_
  obtain ⟨t1033, h⟩ := gt_some h
  obtain ⟨g1034, h⟩ := gd_some h
  obtain ⟨m1035, hm1035, h⟩ := vb_some h
  have t1036 : mT m1035 (mC m729) = 32 := by rw [hm1035]; exact t1011
  have t1037 : mT m1035 a0 = 13 := by rw [hm1035]; exact t1012
  have t1038 : mT m1035 a741 = 35 := by rw [hm1035]; exact t1013
  have t1039 : mT m1035 a750 = 35 := by rw [hm1035]; exact t1014
  have t1040 : mT m1035 a760 = 35 := by rw [hm1035]; exact t1015
  have t1041 : mT m1035 a771 = 35 := by rw [hm1035]; exact t1016
  have t1042 : mT m1035 a783 = 35 := by rw [hm1035]; exact t1017
  have t1043 : mT m1035 a796 = 35 := by rw [hm1035]; exact t1018
  have t1044 : mT m1035 a810 = 35 := by rw [hm1035]; exact t1019
  have t1045 : mT m1035 a825 = 35 := by rw [hm1035]; exact t1020
  have t1046 : mT m1035 a841 = 35 := by rw [hm1035]; exact t1021
  have t1047 : mT m1035 a858 = 35 := by rw [hm1035]; exact t1022
  have t1048 : mT m1035 a876 = 35 := by rw [hm1035]; exact t1023
  have t1049 : mT m1035 a895 = 35 := by rw [hm1035]; exact t1024
  have t1050 : mT m1035 a915 = 35 := by rw [hm1035]; exact t1025
  have t1051 : mT m1035 a936 = 35 := by rw [hm1035]; exact t1026
  have t1052 : mT m1035 a958 = 35 := by rw [hm1035]; exact t1027
  have t1053 : mT m1035 a981 = 35 := by rw [hm1035]; exact t1028
  have t1054 : mT m1035 a1005 = 35 := by rw [hm1035]; exact t1029
  have t1055 : mT m1035 a1030 = 35 := by rw [hm1035]; exact t1033
  refine (p_last (pc := 1096) hm1035 (by decide +kernel : decode k_R_init.2.1 1096 = .ok (.lastore, 1)) t1033 rfl g1034) ?_
  refine (p_aload_n (pc := 1097) (k := 0) (by decide +kernel : decode k_R_init.2.1 1097 = .ok (.aload_n 0, 1)) rfl rfl) ?_
  obtain ⟨a1056, o1057, h⟩ := gs_some h
  refine (p_getr (pc := 1098) o1057 (by decide +kernel : decode k_R_init.2.1 1098 = .ok (.getfield 34, 3)) lg_12_34 t1037) ?_
  refine (r_bipush (pc := 1101) (by decide +kernel : decode k_R_init.2.1 1101 = .ok (.bipush (18), 2)) (by decide : _ = (18 : Int32))) ?_
  refine (r_bipush (pc := 1103) (by decide +kernel : decode k_R_init.2.1 1103 = .ok (.bipush (108), 2)) (by decide : _ = (108 : Int32))) ?_
  refine (r_bipush (pc := 1105) (by decide +kernel : decode k_R_init.2.1 1105 = .ok (.bipush (111), 2)) (by decide : _ = (111 : Int32))) ?_
  refine (r_bipush (pc := 1107) (by decide +kernel : decode k_R_init.2.1 1107 = .ok (.bipush (97), 2)) (by decide : _ = (97 : Int32))) ?_
  refine (r_bipush (pc := 1109) (by decide +kernel : decode k_R_init.2.1 1109 = .ok (.bipush (100), 2)) (by decide : _ = (100 : Int32))) ?_
  refine (r_iconst (pc := 1111) (by decide +kernel : decode k_R_init.2.1 1111 = .ok (.iconst 0, 1)) ic_0) ?_
  refine (r_iconst (pc := 1112) (by decide +kernel : decode k_R_init.2.1 1112 = .ok (.iconst 0, 1)) ic_0) ?_
  refine (r_iconst (pc := 1113) (by decide +kernel : decode k_R_init.2.1 1113 = .ok (.iconst 0, 1)) ic_0) ?_
  obtain ⟨r1058, hr1058, h⟩ := bp_some h
  refine (q_callS (pc := 1114) (As := [.int 108, .int 111, .int 97, .int 100, .int 0, .int 0, .int 0]) (st := [.int 18, .ref a1056]) (st2 := [.long r1058, .int 18, .ref a1056]) rfl rfl (by decide +kernel : decode k_R_init.2.1 1114 = .ok (.invokestatic 272, 3)) lc_12_272 mo_R_word ⟨Nat.le_of_ble_eq_true rfl, Nat.le_of_ble_eq_true rfl⟩ (Nat.le_of_ble_eq_true rfl) (Nat.le_of_ble_eq_true rfl) (R_word_run hr1058)) ?_
  obtain ⟨t1059, h⟩ := gt_some h
  obtain ⟨g1060, h⟩ := gd_some h
  obtain ⟨m1061, hm1061, h⟩ := vb_some h
  have t1062 : mT m1061 (mC m729) = 32 := by rw [hm1061]; exact t1036
  have t1063 : mT m1061 a0 = 13 := by rw [hm1061]; exact t1037
  have t1064 : mT m1061 a741 = 35 := by rw [hm1061]; exact t1038
  have t1065 : mT m1061 a750 = 35 := by rw [hm1061]; exact t1039
  have t1066 : mT m1061 a760 = 35 := by rw [hm1061]; exact t1040
  have t1067 : mT m1061 a771 = 35 := by rw [hm1061]; exact t1041
  have t1068 : mT m1061 a783 = 35 := by rw [hm1061]; exact t1042
  have t1069 : mT m1061 a796 = 35 := by rw [hm1061]; exact t1043
  have t1070 : mT m1061 a810 = 35 := by rw [hm1061]; exact t1044
  have t1071 : mT m1061 a825 = 35 := by rw [hm1061]; exact t1045
  have t1072 : mT m1061 a841 = 35 := by rw [hm1061]; exact t1046
  have t1073 : mT m1061 a858 = 35 := by rw [hm1061]; exact t1047
  have t1074 : mT m1061 a876 = 35 := by rw [hm1061]; exact t1048
  have t1075 : mT m1061 a895 = 35 := by rw [hm1061]; exact t1049
  have t1076 : mT m1061 a915 = 35 := by rw [hm1061]; exact t1050
  have t1077 : mT m1061 a936 = 35 := by rw [hm1061]; exact t1051
  have t1078 : mT m1061 a958 = 35 := by rw [hm1061]; exact t1052
  have t1079 : mT m1061 a981 = 35 := by rw [hm1061]; exact t1053
  have t1080 : mT m1061 a1005 = 35 := by rw [hm1061]; exact t1054
  have t1081 : mT m1061 a1030 = 35 := by rw [hm1061]; exact t1055
  have t1082 : mT m1061 a1056 = 35 := by rw [hm1061]; exact t1059
  refine (p_last (pc := 1117) hm1061 (by decide +kernel : decode k_R_init.2.1 1117 = .ok (.lastore, 1)) t1059 rfl g1060) ?_
  refine (p_aload_n (pc := 1118) (k := 0) (by decide +kernel : decode k_R_init.2.1 1118 = .ok (.aload_n 0, 1)) rfl rfl) ?_
  obtain ⟨a1083, o1084, h⟩ := gs_some h
  refine (p_getr (pc := 1119) o1084 (by decide +kernel : decode k_R_init.2.1 1119 = .ok (.getfield 34, 3)) lg_12_34 t1063) ?_
  refine (r_bipush (pc := 1122) (by decide +kernel : decode k_R_init.2.1 1122 = .ok (.bipush (19), 2)) (by decide : _ = (19 : Int32))) ?_
  refine (r_bipush (pc := 1124) (by decide +kernel : decode k_R_init.2.1 1124 = .ok (.bipush (101), 2)) (by decide : _ = (101 : Int32))) ?_
  refine (r_bipush (pc := 1126) (by decide +kernel : decode k_R_init.2.1 1126 = .ok (.bipush (120), 2)) (by decide : _ = (120 : Int32))) ?_
  refine (r_bipush (pc := 1128) (by decide +kernel : decode k_R_init.2.1 1128 = .ok (.bipush (116), 2)) (by decide : _ = (116 : Int32))) ?_
  refine (r_bipush (pc := 1130) (by decide +kernel : decode k_R_init.2.1 1130 = .ok (.bipush (114), 2)) (by decide : _ = (114 : Int32))) ?_
  refine (r_bipush (pc := 1132) (by decide +kernel : decode k_R_init.2.1 1132 = .ok (.bipush (97), 2)) (by decide : _ = (97 : Int32))) ?_
  refine (r_iconst (pc := 1134) (by decide +kernel : decode k_R_init.2.1 1134 = .ok (.iconst 0, 1)) ic_0) ?_
  refine (r_iconst (pc := 1135) (by decide +kernel : decode k_R_init.2.1 1135 = .ok (.iconst 0, 1)) ic_0) ?_
  obtain ⟨r1085, hr1085, h⟩ := bp_some h
  refine (q_callS (pc := 1136) (As := [.int 101, .int 120, .int 116, .int 114, .int 97, .int 0, .int 0]) (st := [.int 19, .ref a1083]) (st2 := [.long r1085, .int 19, .ref a1083]) rfl rfl (by decide +kernel : decode k_R_init.2.1 1136 = .ok (.invokestatic 272, 3)) lc_12_272 mo_R_word ⟨Nat.le_of_ble_eq_true rfl, Nat.le_of_ble_eq_true rfl⟩ (Nat.le_of_ble_eq_true rfl) (Nat.le_of_ble_eq_true rfl) (R_word_run hr1085)) ?_
  obtain ⟨t1086, h⟩ := gt_some h
  obtain ⟨g1087, h⟩ := gd_some h
  obtain ⟨m1088, hm1088, h⟩ := vb_some h
  have t1089 : mT m1088 (mC m729) = 32 := by rw [hm1088]; exact t1062
  have t1090 : mT m1088 a0 = 13 := by rw [hm1088]; exact t1063
  have t1091 : mT m1088 a741 = 35 := by rw [hm1088]; exact t1064
  have t1092 : mT m1088 a750 = 35 := by rw [hm1088]; exact t1065
  have t1093 : mT m1088 a760 = 35 := by rw [hm1088]; exact t1066
  have t1094 : mT m1088 a771 = 35 := by rw [hm1088]; exact t1067
  have t1095 : mT m1088 a783 = 35 := by rw [hm1088]; exact t1068
  have t1096 : mT m1088 a796 = 35 := by rw [hm1088]; exact t1069
  have t1097 : mT m1088 a810 = 35 := by rw [hm1088]; exact t1070
  have t1098 : mT m1088 a825 = 35 := by rw [hm1088]; exact t1071
  have t1099 : mT m1088 a841 = 35 := by rw [hm1088]; exact t1072
  have t1100 : mT m1088 a858 = 35 := by rw [hm1088]; exact t1073
  have t1101 : mT m1088 a876 = 35 := by rw [hm1088]; exact t1074
  have t1102 : mT m1088 a895 = 35 := by rw [hm1088]; exact t1075
  have t1103 : mT m1088 a915 = 35 := by rw [hm1088]; exact t1076
  have t1104 : mT m1088 a936 = 35 := by rw [hm1088]; exact t1077
  have t1105 : mT m1088 a958 = 35 := by rw [hm1088]; exact t1078
  have t1106 : mT m1088 a981 = 35 := by rw [hm1088]; exact t1079
  have t1107 : mT m1088 a1005 = 35 := by rw [hm1088]; exact t1080
  have t1108 : mT m1088 a1030 = 35 := by rw [hm1088]; exact t1081
  have t1109 : mT m1088 a1056 = 35 := by rw [hm1088]; exact t1082
  have t1110 : mT m1088 a1083 = 35 := by rw [hm1088]; exact t1086
  refine (p_last (pc := 1139) hm1088 (by decide +kernel : decode k_R_init.2.1 1139 = .ok (.lastore, 1)) t1086 rfl g1087) ?_
  refine (p_aload_n (pc := 1140) (k := 0) (by decide +kernel : decode k_R_init.2.1 1140 = .ok (.aload_n 0, 1)) rfl rfl) ?_
  obtain ⟨a1111, o1112, h⟩ := gs_some h
  refine (p_getr (pc := 1141) o1112 (by decide +kernel : decode k_R_init.2.1 1141 = .ok (.getfield 34, 3)) lg_12_34 t1090) ?_
  refine (r_bipush (pc := 1144) (by decide +kernel : decode k_R_init.2.1 1144 = .ok (.bipush (20), 2)) (by decide : _ = (20 : Int32))) ?_
  refine (r_bipush (pc := 1146) (by decide +kernel : decode k_R_init.2.1 1146 = .ok (.bipush (98), 2)) (by decide : _ = (98 : Int32))) ?_
  refine (r_bipush (pc := 1148) (by decide +kernel : decode k_R_init.2.1 1148 = .ok (.bipush (97), 2)) (by decide : _ = (97 : Int32))) ?_
  refine (r_bipush (pc := 1150) (by decide +kernel : decode k_R_init.2.1 1150 = .ok (.bipush (114), 2)) (by decide : _ = (114 : Int32))) ?_
  refine (r_bipush (pc := 1152) (by decide +kernel : decode k_R_init.2.1 1152 = .ok (.bipush (115), 2)) (by decide : _ = (115 : Int32))) ?_
  refine (r_iconst (pc := 1154) (by decide +kernel : decode k_R_init.2.1 1154 = .ok (.iconst 0, 1)) ic_0) ?_
  refine (r_iconst (pc := 1155) (by decide +kernel : decode k_R_init.2.1 1155 = .ok (.iconst 0, 1)) ic_0) ?_
  refine (r_iconst (pc := 1156) (by decide +kernel : decode k_R_init.2.1 1156 = .ok (.iconst 0, 1)) ic_0) ?_
  obtain ⟨r1113, hr1113, h⟩ := bp_some h
  refine (q_callS (pc := 1157) (As := [.int 98, .int 97, .int 114, .int 115, .int 0, .int 0, .int 0]) (st := [.int 20, .ref a1111]) (st2 := [.long r1113, .int 20, .ref a1111]) rfl rfl (by decide +kernel : decode k_R_init.2.1 1157 = .ok (.invokestatic 272, 3)) lc_12_272 mo_R_word ⟨Nat.le_of_ble_eq_true rfl, Nat.le_of_ble_eq_true rfl⟩ (Nat.le_of_ble_eq_true rfl) (Nat.le_of_ble_eq_true rfl) (R_word_run hr1113)) ?_
  obtain ⟨t1114, h⟩ := gt_some h
  obtain ⟨g1115, h⟩ := gd_some h
  obtain ⟨m1116, hm1116, h⟩ := vb_some h
  have t1117 : mT m1116 (mC m729) = 32 := by rw [hm1116]; exact t1089
  have t1118 : mT m1116 a0 = 13 := by rw [hm1116]; exact t1090
  have t1119 : mT m1116 a741 = 35 := by rw [hm1116]; exact t1091
  have t1120 : mT m1116 a750 = 35 := by rw [hm1116]; exact t1092
  have t1121 : mT m1116 a760 = 35 := by rw [hm1116]; exact t1093
  have t1122 : mT m1116 a771 = 35 := by rw [hm1116]; exact t1094
  have t1123 : mT m1116 a783 = 35 := by rw [hm1116]; exact t1095
  have t1124 : mT m1116 a796 = 35 := by rw [hm1116]; exact t1096
  have t1125 : mT m1116 a810 = 35 := by rw [hm1116]; exact t1097
  have t1126 : mT m1116 a825 = 35 := by rw [hm1116]; exact t1098
  have t1127 : mT m1116 a841 = 35 := by rw [hm1116]; exact t1099
  have t1128 : mT m1116 a858 = 35 := by rw [hm1116]; exact t1100
  have t1129 : mT m1116 a876 = 35 := by rw [hm1116]; exact t1101
  have t1130 : mT m1116 a895 = 35 := by rw [hm1116]; exact t1102
  have t1131 : mT m1116 a915 = 35 := by rw [hm1116]; exact t1103
  have t1132 : mT m1116 a936 = 35 := by rw [hm1116]; exact t1104
  have t1133 : mT m1116 a958 = 35 := by rw [hm1116]; exact t1105
  have t1134 : mT m1116 a981 = 35 := by rw [hm1116]; exact t1106
  have t1135 : mT m1116 a1005 = 35 := by rw [hm1116]; exact t1107
  have t1136 : mT m1116 a1030 = 35 := by rw [hm1116]; exact t1108
  have t1137 : mT m1116 a1056 = 35 := by rw [hm1116]; exact t1109
  have t1138 : mT m1116 a1083 = 35 := by rw [hm1116]; exact t1110
  have t1139 : mT m1116 a1111 = 35 := by rw [hm1116]; exact t1114
  refine (p_last (pc := 1160) hm1116 (by decide +kernel : decode k_R_init.2.1 1160 = .ok (.lastore, 1)) t1114 rfl g1115) ?_
  refine (p_aload_n (pc := 1161) (k := 0) (by decide +kernel : decode k_R_init.2.1 1161 = .ok (.aload_n 0, 1)) rfl rfl) ?_
  obtain ⟨a1140, o1141, h⟩ := gs_some h
  refine (p_getr (pc := 1162) o1141 (by decide +kernel : decode k_R_init.2.1 1162 = .ok (.getfield 34, 3)) lg_12_34 t1118) ?_
  refine (r_bipush (pc := 1165) (by decide +kernel : decode k_R_init.2.1 1165 = .ok (.bipush (21), 2)) (by decide : _ = (21 : Int32))) ?_
  refine (r_bipush (pc := 1167) (by decide +kernel : decode k_R_init.2.1 1167 = .ok (.bipush (114), 2)) (by decide : _ = (114 : Int32))) ?_
  refine (r_bipush (pc := 1169) (by decide +kernel : decode k_R_init.2.1 1169 = .ok (.bipush (111), 2)) (by decide : _ = (111 : Int32))) ?_
  refine (r_bipush (pc := 1171) (by decide +kernel : decode k_R_init.2.1 1171 = .ok (.bipush (117), 2)) (by decide : _ = (117 : Int32))) ?_
  refine (r_bipush (pc := 1173) (by decide +kernel : decode k_R_init.2.1 1173 = .ok (.bipush (110), 2)) (by decide : _ = (110 : Int32))) ?_
  refine (r_bipush (pc := 1175) (by decide +kernel : decode k_R_init.2.1 1175 = .ok (.bipush (100), 2)) (by decide : _ = (100 : Int32))) ?_
  refine (r_iconst (pc := 1177) (by decide +kernel : decode k_R_init.2.1 1177 = .ok (.iconst 0, 1)) ic_0) ?_
  refine (r_iconst (pc := 1178) (by decide +kernel : decode k_R_init.2.1 1178 = .ok (.iconst 0, 1)) ic_0) ?_
  obtain ⟨r1142, hr1142, h⟩ := bp_some h
  refine (q_callS (pc := 1179) (As := [.int 114, .int 111, .int 117, .int 110, .int 100, .int 0, .int 0]) (st := [.int 21, .ref a1140]) (st2 := [.long r1142, .int 21, .ref a1140]) rfl rfl (by decide +kernel : decode k_R_init.2.1 1179 = .ok (.invokestatic 272, 3)) lc_12_272 mo_R_word ⟨Nat.le_of_ble_eq_true rfl, Nat.le_of_ble_eq_true rfl⟩ (Nat.le_of_ble_eq_true rfl) (Nat.le_of_ble_eq_true rfl) (R_word_run hr1142)) ?_
  obtain ⟨t1143, h⟩ := gt_some h
  obtain ⟨g1144, h⟩ := gd_some h
  obtain ⟨m1145, hm1145, h⟩ := vb_some h
  have t1146 : mT m1145 (mC m729) = 32 := by rw [hm1145]; exact t1117
  have t1147 : mT m1145 a0 = 13 := by rw [hm1145]; exact t1118
  have t1148 : mT m1145 a741 = 35 := by rw [hm1145]; exact t1119
  have t1149 : mT m1145 a750 = 35 := by rw [hm1145]; exact t1120
  have t1150 : mT m1145 a760 = 35 := by rw [hm1145]; exact t1121
  have t1151 : mT m1145 a771 = 35 := by rw [hm1145]; exact t1122
  have t1152 : mT m1145 a783 = 35 := by rw [hm1145]; exact t1123
  have t1153 : mT m1145 a796 = 35 := by rw [hm1145]; exact t1124
  have t1154 : mT m1145 a810 = 35 := by rw [hm1145]; exact t1125
  have t1155 : mT m1145 a825 = 35 := by rw [hm1145]; exact t1126
  have t1156 : mT m1145 a841 = 35 := by rw [hm1145]; exact t1127
  have t1157 : mT m1145 a858 = 35 := by rw [hm1145]; exact t1128
  have t1158 : mT m1145 a876 = 35 := by rw [hm1145]; exact t1129
  have t1159 : mT m1145 a895 = 35 := by rw [hm1145]; exact t1130
  have t1160 : mT m1145 a915 = 35 := by rw [hm1145]; exact t1131
  have t1161 : mT m1145 a936 = 35 := by rw [hm1145]; exact t1132
  have t1162 : mT m1145 a958 = 35 := by rw [hm1145]; exact t1133
  have t1163 : mT m1145 a981 = 35 := by rw [hm1145]; exact t1134
  have t1164 : mT m1145 a1005 = 35 := by rw [hm1145]; exact t1135
  have t1165 : mT m1145 a1030 = 35 := by rw [hm1145]; exact t1136
  have t1166 : mT m1145 a1056 = 35 := by rw [hm1145]; exact t1137
  have t1167 : mT m1145 a1083 = 35 := by rw [hm1145]; exact t1138
  have t1168 : mT m1145 a1111 = 35 := by rw [hm1145]; exact t1139
  have t1169 : mT m1145 a1140 = 35 := by rw [hm1145]; exact t1143
  refine (p_last (pc := 1182) hm1145 (by decide +kernel : decode k_R_init.2.1 1182 = .ok (.lastore, 1)) t1143 rfl g1144) ?_
  refine (p_aload_n (pc := 1183) (k := 0) (by decide +kernel : decode k_R_init.2.1 1183 = .ok (.aload_n 0, 1)) rfl rfl) ?_
  obtain ⟨a1170, o1171, h⟩ := gs_some h
  refine (p_getr (pc := 1184) o1171 (by decide +kernel : decode k_R_init.2.1 1184 = .ok (.getfield 34, 3)) lg_12_34 t1147) ?_
  refine (r_bipush (pc := 1187) (by decide +kernel : decode k_R_init.2.1 1187 = .ok (.bipush (22), 2)) (by decide : _ = (22 : Int32))) ?_
  refine (r_bipush (pc := 1189) (by decide +kernel : decode k_R_init.2.1 1189 = .ok (.bipush (115), 2)) (by decide : _ = (115 : Int32))) ?_
  refine (r_bipush (pc := 1191) (by decide +kernel : decode k_R_init.2.1 1191 = .ok (.bipush (116), 2)) (by decide : _ = (116 : Int32))) ?_
  refine (r_bipush (pc := 1193) (by decide +kernel : decode k_R_init.2.1 1193 = .ok (.bipush (114), 2)) (by decide : _ = (114 : Int32))) ?_
  refine (r_bipush (pc := 1195) (by decide +kernel : decode k_R_init.2.1 1195 = .ok (.bipush (105), 2)) (by decide : _ = (105 : Int32))) ?_
  refine (r_bipush (pc := 1197) (by decide +kernel : decode k_R_init.2.1 1197 = .ok (.bipush (107), 2)) (by decide : _ = (107 : Int32))) ?_
  refine (r_bipush (pc := 1199) (by decide +kernel : decode k_R_init.2.1 1199 = .ok (.bipush (101), 2)) (by decide : _ = (101 : Int32))) ?_
  refine (r_iconst (pc := 1201) (by decide +kernel : decode k_R_init.2.1 1201 = .ok (.iconst 0, 1)) ic_0) ?_
  obtain ⟨r1172, hr1172, h⟩ := bp_some h
  refine (q_callS (pc := 1202) (As := [.int 115, .int 116, .int 114, .int 105, .int 107, .int 101, .int 0]) (st := [.int 22, .ref a1170]) (st2 := [.long r1172, .int 22, .ref a1170]) rfl rfl (by decide +kernel : decode k_R_init.2.1 1202 = .ok (.invokestatic 272, 3)) lc_12_272 mo_R_word ⟨Nat.le_of_ble_eq_true rfl, Nat.le_of_ble_eq_true rfl⟩ (Nat.le_of_ble_eq_true rfl) (Nat.le_of_ble_eq_true rfl) (R_word_run hr1172)) ?_
  obtain ⟨t1173, h⟩ := gt_some h
  obtain ⟨g1174, h⟩ := gd_some h
  obtain ⟨m1175, hm1175, h⟩ := vb_some h
  have t1176 : mT m1175 (mC m729) = 32 := by rw [hm1175]; exact t1146
  have t1177 : mT m1175 a0 = 13 := by rw [hm1175]; exact t1147
  have t1178 : mT m1175 a741 = 35 := by rw [hm1175]; exact t1148
  have t1179 : mT m1175 a750 = 35 := by rw [hm1175]; exact t1149
  have t1180 : mT m1175 a760 = 35 := by rw [hm1175]; exact t1150
  have t1181 : mT m1175 a771 = 35 := by rw [hm1175]; exact t1151
  have t1182 : mT m1175 a783 = 35 := by rw [hm1175]; exact t1152
  have t1183 : mT m1175 a796 = 35 := by rw [hm1175]; exact t1153
  have t1184 : mT m1175 a810 = 35 := by rw [hm1175]; exact t1154
  have t1185 : mT m1175 a825 = 35 := by rw [hm1175]; exact t1155
  have t1186 : mT m1175 a841 = 35 := by rw [hm1175]; exact t1156
  have t1187 : mT m1175 a858 = 35 := by rw [hm1175]; exact t1157
  have t1188 : mT m1175 a876 = 35 := by rw [hm1175]; exact t1158
  have t1189 : mT m1175 a895 = 35 := by rw [hm1175]; exact t1159
  have t1190 : mT m1175 a915 = 35 := by rw [hm1175]; exact t1160
  have t1191 : mT m1175 a936 = 35 := by rw [hm1175]; exact t1161
  have t1192 : mT m1175 a958 = 35 := by rw [hm1175]; exact t1162
  have t1193 : mT m1175 a981 = 35 := by rw [hm1175]; exact t1163
  have t1194 : mT m1175 a1005 = 35 := by rw [hm1175]; exact t1164
  have t1195 : mT m1175 a1030 = 35 := by rw [hm1175]; exact t1165
  have t1196 : mT m1175 a1056 = 35 := by rw [hm1175]; exact t1166
  have t1197 : mT m1175 a1083 = 35 := by rw [hm1175]; exact t1167
  have t1198 : mT m1175 a1111 = 35 := by rw [hm1175]; exact t1168
  have t1199 : mT m1175 a1140 = 35 := by rw [hm1175]; exact t1169
  have t1200 : mT m1175 a1170 = 35 := by rw [hm1175]; exact t1173
  refine (p_last (pc := 1205) hm1175 (by decide +kernel : decode k_R_init.2.1 1205 = .ok (.lastore, 1)) t1173 rfl g1174) ?_
  refine (p_aload_n (pc := 1206) (k := 0) (by decide +kernel : decode k_R_init.2.1 1206 = .ok (.aload_n 0, 1)) rfl rfl) ?_
  obtain ⟨a1201, o1202, h⟩ := gs_some h
  refine (p_getr (pc := 1207) o1202 (by decide +kernel : decode k_R_init.2.1 1207 = .ok (.getfield 34, 3)) lg_12_34 t1177) ?_
  refine (r_bipush (pc := 1210) (by decide +kernel : decode k_R_init.2.1 1210 = .ok (.bipush (23), 2)) (by decide : _ = (23 : Int32))) ?_
  refine (r_bipush (pc := 1212) (by decide +kernel : decode k_R_init.2.1 1212 = .ok (.bipush (105), 2)) (by decide : _ = (105 : Int32))) ?_
  refine (r_bipush (pc := 1214) (by decide +kernel : decode k_R_init.2.1 1214 = .ok (.bipush (115), 2)) (by decide : _ = (115 : Int32))) ?_
  refine (r_iconst (pc := 1216) (by decide +kernel : decode k_R_init.2.1 1216 = .ok (.iconst 0, 1)) ic_0) ?_
  refine (r_iconst (pc := 1217) (by decide +kernel : decode k_R_init.2.1 1217 = .ok (.iconst 0, 1)) ic_0) ?_
  refine (r_iconst (pc := 1218) (by decide +kernel : decode k_R_init.2.1 1218 = .ok (.iconst 0, 1)) ic_0) ?_
  refine (r_iconst (pc := 1219) (by decide +kernel : decode k_R_init.2.1 1219 = .ok (.iconst 0, 1)) ic_0) ?_
  refine (r_iconst (pc := 1220) (by decide +kernel : decode k_R_init.2.1 1220 = .ok (.iconst 0, 1)) ic_0) ?_
  obtain ⟨r1203, hr1203, h⟩ := bp_some h
  refine (q_callS (pc := 1221) (As := [.int 105, .int 115, .int 0, .int 0, .int 0, .int 0, .int 0]) (st := [.int 23, .ref a1201]) (st2 := [.long r1203, .int 23, .ref a1201]) rfl rfl (by decide +kernel : decode k_R_init.2.1 1221 = .ok (.invokestatic 272, 3)) lc_12_272 mo_R_word ⟨Nat.le_of_ble_eq_true rfl, Nat.le_of_ble_eq_true rfl⟩ (Nat.le_of_ble_eq_true rfl) (Nat.le_of_ble_eq_true rfl) (R_word_run hr1203)) ?_
  obtain ⟨t1204, h⟩ := gt_some h
  obtain ⟨g1205, h⟩ := gd_some h
  obtain ⟨m1206, hm1206, h⟩ := vb_some h
  have t1207 : mT m1206 (mC m729) = 32 := by rw [hm1206]; exact t1176
  have t1208 : mT m1206 a0 = 13 := by rw [hm1206]; exact t1177
  have t1209 : mT m1206 a741 = 35 := by rw [hm1206]; exact t1178
  have t1210 : mT m1206 a750 = 35 := by rw [hm1206]; exact t1179
  have t1211 : mT m1206 a760 = 35 := by rw [hm1206]; exact t1180
  have t1212 : mT m1206 a771 = 35 := by rw [hm1206]; exact t1181
  have t1213 : mT m1206 a783 = 35 := by rw [hm1206]; exact t1182
  have t1214 : mT m1206 a796 = 35 := by rw [hm1206]; exact t1183
  have t1215 : mT m1206 a810 = 35 := by rw [hm1206]; exact t1184
  have t1216 : mT m1206 a825 = 35 := by rw [hm1206]; exact t1185
  have t1217 : mT m1206 a841 = 35 := by rw [hm1206]; exact t1186
  have t1218 : mT m1206 a858 = 35 := by rw [hm1206]; exact t1187
  have t1219 : mT m1206 a876 = 35 := by rw [hm1206]; exact t1188
  have t1220 : mT m1206 a895 = 35 := by rw [hm1206]; exact t1189
  have t1221 : mT m1206 a915 = 35 := by rw [hm1206]; exact t1190
  have t1222 : mT m1206 a936 = 35 := by rw [hm1206]; exact t1191
  have t1223 : mT m1206 a958 = 35 := by rw [hm1206]; exact t1192
  have t1224 : mT m1206 a981 = 35 := by rw [hm1206]; exact t1193
  have t1225 : mT m1206 a1005 = 35 := by rw [hm1206]; exact t1194
  have t1226 : mT m1206 a1030 = 35 := by rw [hm1206]; exact t1195
  have t1227 : mT m1206 a1056 = 35 := by rw [hm1206]; exact t1196
  have t1228 : mT m1206 a1083 = 35 := by rw [hm1206]; exact t1197
  have t1229 : mT m1206 a1111 = 35 := by rw [hm1206]; exact t1198
  have t1230 : mT m1206 a1140 = 35 := by rw [hm1206]; exact t1199
  have t1231 : mT m1206 a1170 = 35 := by rw [hm1206]; exact t1200
  have t1232 : mT m1206 a1201 = 35 := by rw [hm1206]; exact t1204
  refine (p_last (pc := 1224) hm1206 (by decide +kernel : decode k_R_init.2.1 1224 = .ok (.lastore, 1)) t1204 rfl g1205) ?_
  refine (p_aload_n (pc := 1225) (k := 0) (by decide +kernel : decode k_R_init.2.1 1225 = .ok (.aload_n 0, 1)) rfl rfl) ?_
  obtain ⟨a1233, o1234, h⟩ := gs_some h
  refine (p_getr (pc := 1226) o1234 (by decide +kernel : decode k_R_init.2.1 1226 = .ok (.getfield 34, 3)) lg_12_34 t1208) ?_
  refine (r_bipush (pc := 1229) (by decide +kernel : decode k_R_init.2.1 1229 = .ok (.bipush (24), 2)) (by decide : _ = (24 : Int32))) ?_
  refine (r_bipush (pc := 1231) (by decide +kernel : decode k_R_init.2.1 1231 = .ok (.bipush (111), 2)) (by decide : _ = (111 : Int32))) ?_
  refine (r_bipush (pc := 1233) (by decide +kernel : decode k_R_init.2.1 1233 = .ok (.bipush (114), 2)) (by decide : _ = (114 : Int32))) ?_
  refine (r_iconst (pc := 1235) (by decide +kernel : decode k_R_init.2.1 1235 = .ok (.iconst 0, 1)) ic_0) ?_
  refine (r_iconst (pc := 1236) (by decide +kernel : decode k_R_init.2.1 1236 = .ok (.iconst 0, 1)) ic_0) ?_
  refine (r_iconst (pc := 1237) (by decide +kernel : decode k_R_init.2.1 1237 = .ok (.iconst 0, 1)) ic_0) ?_
  refine (r_iconst (pc := 1238) (by decide +kernel : decode k_R_init.2.1 1238 = .ok (.iconst 0, 1)) ic_0) ?_
  refine (r_iconst (pc := 1239) (by decide +kernel : decode k_R_init.2.1 1239 = .ok (.iconst 0, 1)) ic_0) ?_
  obtain ⟨r1235, hr1235, h⟩ := bp_some h
  refine (q_callS (pc := 1240) (As := [.int 111, .int 114, .int 0, .int 0, .int 0, .int 0, .int 0]) (st := [.int 24, .ref a1233]) (st2 := [.long r1235, .int 24, .ref a1233]) rfl rfl (by decide +kernel : decode k_R_init.2.1 1240 = .ok (.invokestatic 272, 3)) lc_12_272 mo_R_word ⟨Nat.le_of_ble_eq_true rfl, Nat.le_of_ble_eq_true rfl⟩ (Nat.le_of_ble_eq_true rfl) (Nat.le_of_ble_eq_true rfl) (R_word_run hr1235)) ?_
  obtain ⟨t1236, h⟩ := gt_some h
  obtain ⟨g1237, h⟩ := gd_some h
  obtain ⟨m1238, hm1238, h⟩ := vb_some h
  have t1239 : mT m1238 (mC m729) = 32 := by rw [hm1238]; exact t1207
  have t1240 : mT m1238 a0 = 13 := by rw [hm1238]; exact t1208
  have t1241 : mT m1238 a741 = 35 := by rw [hm1238]; exact t1209
  have t1242 : mT m1238 a750 = 35 := by rw [hm1238]; exact t1210
  have t1243 : mT m1238 a760 = 35 := by rw [hm1238]; exact t1211
  have t1244 : mT m1238 a771 = 35 := by rw [hm1238]; exact t1212
  have t1245 : mT m1238 a783 = 35 := by rw [hm1238]; exact t1213
  have t1246 : mT m1238 a796 = 35 := by rw [hm1238]; exact t1214
  have t1247 : mT m1238 a810 = 35 := by rw [hm1238]; exact t1215
  have t1248 : mT m1238 a825 = 35 := by rw [hm1238]; exact t1216
  have t1249 : mT m1238 a841 = 35 := by rw [hm1238]; exact t1217
  have t1250 : mT m1238 a858 = 35 := by rw [hm1238]; exact t1218
  have t1251 : mT m1238 a876 = 35 := by rw [hm1238]; exact t1219
  have t1252 : mT m1238 a895 = 35 := by rw [hm1238]; exact t1220
  have t1253 : mT m1238 a915 = 35 := by rw [hm1238]; exact t1221
  have t1254 : mT m1238 a936 = 35 := by rw [hm1238]; exact t1222
  have t1255 : mT m1238 a958 = 35 := by rw [hm1238]; exact t1223
  have t1256 : mT m1238 a981 = 35 := by rw [hm1238]; exact t1224
  have t1257 : mT m1238 a1005 = 35 := by rw [hm1238]; exact t1225
  have t1258 : mT m1238 a1030 = 35 := by rw [hm1238]; exact t1226
  have t1259 : mT m1238 a1056 = 35 := by rw [hm1238]; exact t1227
  have t1260 : mT m1238 a1083 = 35 := by rw [hm1238]; exact t1228
  have t1261 : mT m1238 a1111 = 35 := by rw [hm1238]; exact t1229
  have t1262 : mT m1238 a1140 = 35 := by rw [hm1238]; exact t1230
  have t1263 : mT m1238 a1170 = 35 := by rw [hm1238]; exact t1231
  have t1264 : mT m1238 a1201 = 35 := by rw [hm1238]; exact t1232
  have t1265 : mT m1238 a1233 = 35 := by rw [hm1238]; exact t1236
  refine (p_last (pc := 1243) hm1238 (by decide +kernel : decode k_R_init.2.1 1243 = .ok (.lastore, 1)) t1236 rfl g1237) ?_
  refine (p_aload_n (pc := 1244) (k := 0) (by decide +kernel : decode k_R_init.2.1 1244 = .ok (.aload_n 0, 1)) rfl rfl) ?_
  obtain ⟨a1266, o1267, h⟩ := gs_some h
  refine (p_getr (pc := 1245) o1267 (by decide +kernel : decode k_R_init.2.1 1245 = .ok (.getfield 34, 3)) lg_12_34 t1240) ?_
  refine (r_bipush (pc := 1248) (by decide +kernel : decode k_R_init.2.1 1248 = .ok (.bipush (25), 2)) (by decide : _ = (25 : Int32))) ?_
  refine (r_bipush (pc := 1250) (by decide +kernel : decode k_R_init.2.1 1250 = .ok (.bipush (97), 2)) (by decide : _ = (97 : Int32))) ?_
  refine (r_bipush (pc := 1252) (by decide +kernel : decode k_R_init.2.1 1252 = .ok (.bipush (110), 2)) (by decide : _ = (110 : Int32))) ?_
  refine (r_bipush (pc := 1254) (by decide +kernel : decode k_R_init.2.1 1254 = .ok (.bipush (100), 2)) (by decide : _ = (100 : Int32))) ?_
  refine (r_iconst (pc := 1256) (by decide +kernel : decode k_R_init.2.1 1256 = .ok (.iconst 0, 1)) ic_0) ?_
  refine (r_iconst (pc := 1257) (by decide +kernel : decode k_R_init.2.1 1257 = .ok (.iconst 0, 1)) ic_0) ?_
  refine (r_iconst (pc := 1258) (by decide +kernel : decode k_R_init.2.1 1258 = .ok (.iconst 0, 1)) ic_0) ?_
  refine (r_iconst (pc := 1259) (by decide +kernel : decode k_R_init.2.1 1259 = .ok (.iconst 0, 1)) ic_0) ?_
  obtain ⟨r1268, hr1268, h⟩ := bp_some h
  refine (q_callS (pc := 1260) (As := [.int 97, .int 110, .int 100, .int 0, .int 0, .int 0, .int 0]) (st := [.int 25, .ref a1266]) (st2 := [.long r1268, .int 25, .ref a1266]) rfl rfl (by decide +kernel : decode k_R_init.2.1 1260 = .ok (.invokestatic 272, 3)) lc_12_272 mo_R_word ⟨Nat.le_of_ble_eq_true rfl, Nat.le_of_ble_eq_true rfl⟩ (Nat.le_of_ble_eq_true rfl) (Nat.le_of_ble_eq_true rfl) (R_word_run hr1268)) ?_
  obtain ⟨t1269, h⟩ := gt_some h
  obtain ⟨g1270, h⟩ := gd_some h
  obtain ⟨m1271, hm1271, h⟩ := vb_some h
  have t1272 : mT m1271 (mC m729) = 32 := by rw [hm1271]; exact t1239
  have t1273 : mT m1271 a0 = 13 := by rw [hm1271]; exact t1240
  have t1274 : mT m1271 a741 = 35 := by rw [hm1271]; exact t1241
  have t1275 : mT m1271 a750 = 35 := by rw [hm1271]; exact t1242
  have t1276 : mT m1271 a760 = 35 := by rw [hm1271]; exact t1243
  have t1277 : mT m1271 a771 = 35 := by rw [hm1271]; exact t1244
  have t1278 : mT m1271 a783 = 35 := by rw [hm1271]; exact t1245
  have t1279 : mT m1271 a796 = 35 := by rw [hm1271]; exact t1246
  have t1280 : mT m1271 a810 = 35 := by rw [hm1271]; exact t1247
  have t1281 : mT m1271 a825 = 35 := by rw [hm1271]; exact t1248
  have t1282 : mT m1271 a841 = 35 := by rw [hm1271]; exact t1249
  have t1283 : mT m1271 a858 = 35 := by rw [hm1271]; exact t1250
  have t1284 : mT m1271 a876 = 35 := by rw [hm1271]; exact t1251
  have t1285 : mT m1271 a895 = 35 := by rw [hm1271]; exact t1252
  have t1286 : mT m1271 a915 = 35 := by rw [hm1271]; exact t1253
  have t1287 : mT m1271 a936 = 35 := by rw [hm1271]; exact t1254
  have t1288 : mT m1271 a958 = 35 := by rw [hm1271]; exact t1255
  have t1289 : mT m1271 a981 = 35 := by rw [hm1271]; exact t1256
  have t1290 : mT m1271 a1005 = 35 := by rw [hm1271]; exact t1257
  have t1291 : mT m1271 a1030 = 35 := by rw [hm1271]; exact t1258
  have t1292 : mT m1271 a1056 = 35 := by rw [hm1271]; exact t1259
  have t1293 : mT m1271 a1083 = 35 := by rw [hm1271]; exact t1260
  have t1294 : mT m1271 a1111 = 35 := by rw [hm1271]; exact t1261
  have t1295 : mT m1271 a1140 = 35 := by rw [hm1271]; exact t1262
  have t1296 : mT m1271 a1170 = 35 := by rw [hm1271]; exact t1263
  have t1297 : mT m1271 a1201 = 35 := by rw [hm1271]; exact t1264
  have t1298 : mT m1271 a1233 = 35 := by rw [hm1271]; exact t1265
  have t1299 : mT m1271 a1266 = 35 := by rw [hm1271]; exact t1269
  refine (p_last (pc := 1263) hm1271 (by decide +kernel : decode k_R_init.2.1 1263 = .ok (.lastore, 1)) t1269 rfl g1270) ?_
  refine (p_aload_n (pc := 1264) (k := 0) (by decide +kernel : decode k_R_init.2.1 1264 = .ok (.aload_n 0, 1)) rfl rfl) ?_
  obtain ⟨a1300, o1301, h⟩ := gs_some h
  refine (p_getr (pc := 1265) o1301 (by decide +kernel : decode k_R_init.2.1 1265 = .ok (.getfield 34, 3)) lg_12_34 t1273) ?_
  refine (r_bipush (pc := 1268) (by decide +kernel : decode k_R_init.2.1 1268 = .ok (.bipush (26), 2)) (by decide : _ = (26 : Int32))) ?_
  refine (r_bipush (pc := 1270) (by decide +kernel : decode k_R_init.2.1 1270 = .ok (.bipush (110), 2)) (by decide : _ = (110 : Int32))) ?_
  refine (r_bipush (pc := 1272) (by decide +kernel : decode k_R_init.2.1 1272 = .ok (.bipush (111), 2)) (by decide : _ = (111 : Int32))) ?_
  refine (r_bipush (pc := 1274) (by decide +kernel : decode k_R_init.2.1 1274 = .ok (.bipush (116), 2)) (by decide : _ = (116 : Int32))) ?_
  refine (r_iconst (pc := 1276) (by decide +kernel : decode k_R_init.2.1 1276 = .ok (.iconst 0, 1)) ic_0) ?_
  refine (r_iconst (pc := 1277) (by decide +kernel : decode k_R_init.2.1 1277 = .ok (.iconst 0, 1)) ic_0) ?_
  refine (r_iconst (pc := 1278) (by decide +kernel : decode k_R_init.2.1 1278 = .ok (.iconst 0, 1)) ic_0) ?_
  refine (r_iconst (pc := 1279) (by decide +kernel : decode k_R_init.2.1 1279 = .ok (.iconst 0, 1)) ic_0) ?_
  obtain ⟨r1302, hr1302, h⟩ := bp_some h
  refine (q_callS (pc := 1280) (As := [.int 110, .int 111, .int 116, .int 0, .int 0, .int 0, .int 0]) (st := [.int 26, .ref a1300]) (st2 := [.long r1302, .int 26, .ref a1300]) rfl rfl (by decide +kernel : decode k_R_init.2.1 1280 = .ok (.invokestatic 272, 3)) lc_12_272 mo_R_word ⟨Nat.le_of_ble_eq_true rfl, Nat.le_of_ble_eq_true rfl⟩ (Nat.le_of_ble_eq_true rfl) (Nat.le_of_ble_eq_true rfl) (R_word_run hr1302)) ?_
  obtain ⟨t1303, h⟩ := gt_some h
  obtain ⟨g1304, h⟩ := gd_some h
  obtain ⟨m1305, hm1305, h⟩ := vb_some h
  have t1306 : mT m1305 (mC m729) = 32 := by rw [hm1305]; exact t1272
  have t1307 : mT m1305 a0 = 13 := by rw [hm1305]; exact t1273
  have t1308 : mT m1305 a741 = 35 := by rw [hm1305]; exact t1274
  have t1309 : mT m1305 a750 = 35 := by rw [hm1305]; exact t1275
  have t1310 : mT m1305 a760 = 35 := by rw [hm1305]; exact t1276
  have t1311 : mT m1305 a771 = 35 := by rw [hm1305]; exact t1277
  have t1312 : mT m1305 a783 = 35 := by rw [hm1305]; exact t1278
  have t1313 : mT m1305 a796 = 35 := by rw [hm1305]; exact t1279
  have t1314 : mT m1305 a810 = 35 := by rw [hm1305]; exact t1280
  have t1315 : mT m1305 a825 = 35 := by rw [hm1305]; exact t1281
  have t1316 : mT m1305 a841 = 35 := by rw [hm1305]; exact t1282
  have t1317 : mT m1305 a858 = 35 := by rw [hm1305]; exact t1283
  have t1318 : mT m1305 a876 = 35 := by rw [hm1305]; exact t1284
  have t1319 : mT m1305 a895 = 35 := by rw [hm1305]; exact t1285
  have t1320 : mT m1305 a915 = 35 := by rw [hm1305]; exact t1286
  have t1321 : mT m1305 a936 = 35 := by rw [hm1305]; exact t1287
  have t1322 : mT m1305 a958 = 35 := by rw [hm1305]; exact t1288
  have t1323 : mT m1305 a981 = 35 := by rw [hm1305]; exact t1289
  have t1324 : mT m1305 a1005 = 35 := by rw [hm1305]; exact t1290
  have t1325 : mT m1305 a1030 = 35 := by rw [hm1305]; exact t1291
  have t1326 : mT m1305 a1056 = 35 := by rw [hm1305]; exact t1292
  have t1327 : mT m1305 a1083 = 35 := by rw [hm1305]; exact t1293
  have t1328 : mT m1305 a1111 = 35 := by rw [hm1305]; exact t1294
  have t1329 : mT m1305 a1140 = 35 := by rw [hm1305]; exact t1295
  have t1330 : mT m1305 a1170 = 35 := by rw [hm1305]; exact t1296
  have t1331 : mT m1305 a1201 = 35 := by rw [hm1305]; exact t1297
  have t1332 : mT m1305 a1233 = 35 := by rw [hm1305]; exact t1298
  have t1333 : mT m1305 a1266 = 35 := by rw [hm1305]; exact t1299
  have t1334 : mT m1305 a1300 = 35 := by rw [hm1305]; exact t1303
  refine (p_last (pc := 1283) hm1305 (by decide +kernel : decode k_R_init.2.1 1283 = .ok (.lastore, 1)) t1303 rfl g1304) ?_
  refine (p_aload_n (pc := 1284) (k := 0) (by decide +kernel : decode k_R_init.2.1 1284 = .ok (.aload_n 0, 1)) rfl rfl) ?_
  obtain ⟨a1335, o1336, h⟩ := gs_some h
  refine (p_getr (pc := 1285) o1336 (by decide +kernel : decode k_R_init.2.1 1285 = .ok (.getfield 34, 3)) lg_12_34 t1307) ?_
  refine (r_bipush (pc := 1288) (by decide +kernel : decode k_R_init.2.1 1288 = .ok (.bipush (27), 2)) (by decide : _ = (27 : Int32))) ?_
  refine (r_bipush (pc := 1290) (by decide +kernel : decode k_R_init.2.1 1290 = .ok (.bipush (116), 2)) (by decide : _ = (116 : Int32))) ?_
  refine (r_bipush (pc := 1292) (by decide +kernel : decode k_R_init.2.1 1292 = .ok (.bipush (105), 2)) (by decide : _ = (105 : Int32))) ?_
  refine (r_bipush (pc := 1294) (by decide +kernel : decode k_R_init.2.1 1294 = .ok (.bipush (99), 2)) (by decide : _ = (99 : Int32))) ?_
  refine (r_bipush (pc := 1296) (by decide +kernel : decode k_R_init.2.1 1296 = .ok (.bipush (107), 2)) (by decide : _ = (107 : Int32))) ?_
  refine (r_bipush (pc := 1298) (by decide +kernel : decode k_R_init.2.1 1298 = .ok (.bipush (101), 2)) (by decide : _ = (101 : Int32))) ?_
  refine (r_bipush (pc := 1300) (by decide +kernel : decode k_R_init.2.1 1300 = .ok (.bipush (116), 2)) (by decide : _ = (116 : Int32))) ?_
  refine (r_iconst (pc := 1302) (by decide +kernel : decode k_R_init.2.1 1302 = .ok (.iconst 0, 1)) ic_0) ?_
  obtain ⟨r1337, hr1337, h⟩ := bp_some h
  refine (q_callS (pc := 1303) (As := [.int 116, .int 105, .int 99, .int 107, .int 101, .int 116, .int 0]) (st := [.int 27, .ref a1335]) (st2 := [.long r1337, .int 27, .ref a1335]) rfl rfl (by decide +kernel : decode k_R_init.2.1 1303 = .ok (.invokestatic 272, 3)) lc_12_272 mo_R_word ⟨Nat.le_of_ble_eq_true rfl, Nat.le_of_ble_eq_true rfl⟩ (Nat.le_of_ble_eq_true rfl) (Nat.le_of_ble_eq_true rfl) (R_word_run hr1337)) ?_
  obtain ⟨t1338, h⟩ := gt_some h
  obtain ⟨g1339, h⟩ := gd_some h
  obtain ⟨m1340, hm1340, h⟩ := vb_some h
  have t1341 : mT m1340 (mC m729) = 32 := by rw [hm1340]; exact t1306
  have t1342 : mT m1340 a0 = 13 := by rw [hm1340]; exact t1307
  have t1343 : mT m1340 a741 = 35 := by rw [hm1340]; exact t1308
  have t1344 : mT m1340 a750 = 35 := by rw [hm1340]; exact t1309
  have t1345 : mT m1340 a760 = 35 := by rw [hm1340]; exact t1310
  have t1346 : mT m1340 a771 = 35 := by rw [hm1340]; exact t1311
  have t1347 : mT m1340 a783 = 35 := by rw [hm1340]; exact t1312
  have t1348 : mT m1340 a796 = 35 := by rw [hm1340]; exact t1313
  have t1349 : mT m1340 a810 = 35 := by rw [hm1340]; exact t1314
  have t1350 : mT m1340 a825 = 35 := by rw [hm1340]; exact t1315
  have t1351 : mT m1340 a841 = 35 := by rw [hm1340]; exact t1316
  have t1352 : mT m1340 a858 = 35 := by rw [hm1340]; exact t1317
  have t1353 : mT m1340 a876 = 35 := by rw [hm1340]; exact t1318
  have t1354 : mT m1340 a895 = 35 := by rw [hm1340]; exact t1319
  have t1355 : mT m1340 a915 = 35 := by rw [hm1340]; exact t1320
  have t1356 : mT m1340 a936 = 35 := by rw [hm1340]; exact t1321
  have t1357 : mT m1340 a958 = 35 := by rw [hm1340]; exact t1322
  have t1358 : mT m1340 a981 = 35 := by rw [hm1340]; exact t1323
  have t1359 : mT m1340 a1005 = 35 := by rw [hm1340]; exact t1324
  have t1360 : mT m1340 a1030 = 35 := by rw [hm1340]; exact t1325
  have t1361 : mT m1340 a1056 = 35 := by rw [hm1340]; exact t1326
  have t1362 : mT m1340 a1083 = 35 := by rw [hm1340]; exact t1327
  have t1363 : mT m1340 a1111 = 35 := by rw [hm1340]; exact t1328
  have t1364 : mT m1340 a1140 = 35 := by rw [hm1340]; exact t1329
  have t1365 : mT m1340 a1170 = 35 := by rw [hm1340]; exact t1330
  have t1366 : mT m1340 a1201 = 35 := by rw [hm1340]; exact t1331
  have t1367 : mT m1340 a1233 = 35 := by rw [hm1340]; exact t1332
  have t1368 : mT m1340 a1266 = 35 := by rw [hm1340]; exact t1333
  have t1369 : mT m1340 a1300 = 35 := by rw [hm1340]; exact t1334
  have t1370 : mT m1340 a1335 = 35 := by rw [hm1340]; exact t1338
  refine (p_last (pc := 1306) hm1340 (by decide +kernel : decode k_R_init.2.1 1306 = .ok (.lastore, 1)) t1338 rfl g1339) ?_
  refine (p_aload_n (pc := 1307) (k := 0) (by decide +kernel : decode k_R_init.2.1 1307 = .ok (.aload_n 0, 1)) rfl rfl) ?_
  obtain ⟨a1371, o1372, h⟩ := gs_some h
  refine (p_getr (pc := 1308) o1372 (by decide +kernel : decode k_R_init.2.1 1308 = .ok (.getfield 34, 3)) lg_12_34 t1342) ?_
  refine (r_bipush (pc := 1311) (by decide +kernel : decode k_R_init.2.1 1311 = .ok (.bipush (28), 2)) (by decide : _ = (28 : Int32))) ?_
  refine (r_bipush (pc := 1313) (by decide +kernel : decode k_R_init.2.1 1313 = .ok (.bipush (108), 2)) (by decide : _ = (108 : Int32))) ?_
  refine (r_bipush (pc := 1315) (by decide +kernel : decode k_R_init.2.1 1315 = .ok (.bipush (101), 2)) (by decide : _ = (101 : Int32))) ?_
  refine (r_bipush (pc := 1317) (by decide +kernel : decode k_R_init.2.1 1317 = .ok (.bipush (97), 2)) (by decide : _ = (97 : Int32))) ?_
  refine (r_bipush (pc := 1319) (by decide +kernel : decode k_R_init.2.1 1319 = .ok (.bipush (115), 2)) (by decide : _ = (115 : Int32))) ?_
  refine (r_bipush (pc := 1321) (by decide +kernel : decode k_R_init.2.1 1321 = .ok (.bipush (116), 2)) (by decide : _ = (116 : Int32))) ?_
  refine (r_iconst (pc := 1323) (by decide +kernel : decode k_R_init.2.1 1323 = .ok (.iconst 0, 1)) ic_0) ?_
  refine (r_iconst (pc := 1324) (by decide +kernel : decode k_R_init.2.1 1324 = .ok (.iconst 0, 1)) ic_0) ?_
  obtain ⟨r1373, hr1373, h⟩ := bp_some h
  refine (q_callS (pc := 1325) (As := [.int 108, .int 101, .int 97, .int 115, .int 116, .int 0, .int 0]) (st := [.int 28, .ref a1371]) (st2 := [.long r1373, .int 28, .ref a1371]) rfl rfl (by decide +kernel : decode k_R_init.2.1 1325 = .ok (.invokestatic 272, 3)) lc_12_272 mo_R_word ⟨Nat.le_of_ble_eq_true rfl, Nat.le_of_ble_eq_true rfl⟩ (Nat.le_of_ble_eq_true rfl) (Nat.le_of_ble_eq_true rfl) (R_word_run hr1373)) ?_
  obtain ⟨t1374, h⟩ := gt_some h
  obtain ⟨g1375, h⟩ := gd_some h
  obtain ⟨m1376, hm1376, h⟩ := vb_some h
  have t1377 : mT m1376 (mC m729) = 32 := by rw [hm1376]; exact t1341
  have t1378 : mT m1376 a0 = 13 := by rw [hm1376]; exact t1342
  have t1379 : mT m1376 a741 = 35 := by rw [hm1376]; exact t1343
  have t1380 : mT m1376 a750 = 35 := by rw [hm1376]; exact t1344
  have t1381 : mT m1376 a760 = 35 := by rw [hm1376]; exact t1345
  have t1382 : mT m1376 a771 = 35 := by rw [hm1376]; exact t1346
  have t1383 : mT m1376 a783 = 35 := by rw [hm1376]; exact t1347
  have t1384 : mT m1376 a796 = 35 := by rw [hm1376]; exact t1348
  have t1385 : mT m1376 a810 = 35 := by rw [hm1376]; exact t1349
  have t1386 : mT m1376 a825 = 35 := by rw [hm1376]; exact t1350
  have t1387 : mT m1376 a841 = 35 := by rw [hm1376]; exact t1351
  have t1388 : mT m1376 a858 = 35 := by rw [hm1376]; exact t1352
  have t1389 : mT m1376 a876 = 35 := by rw [hm1376]; exact t1353
  have t1390 : mT m1376 a895 = 35 := by rw [hm1376]; exact t1354
  have t1391 : mT m1376 a915 = 35 := by rw [hm1376]; exact t1355
  have t1392 : mT m1376 a936 = 35 := by rw [hm1376]; exact t1356
  have t1393 : mT m1376 a958 = 35 := by rw [hm1376]; exact t1357
  have t1394 : mT m1376 a981 = 35 := by rw [hm1376]; exact t1358
  have t1395 : mT m1376 a1005 = 35 := by rw [hm1376]; exact t1359
  have t1396 : mT m1376 a1030 = 35 := by rw [hm1376]; exact t1360
  have t1397 : mT m1376 a1056 = 35 := by rw [hm1376]; exact t1361
  have t1398 : mT m1376 a1083 = 35 := by rw [hm1376]; exact t1362
  have t1399 : mT m1376 a1111 = 35 := by rw [hm1376]; exact t1363
  have t1400 : mT m1376 a1140 = 35 := by rw [hm1376]; exact t1364
  have t1401 : mT m1376 a1170 = 35 := by rw [hm1376]; exact t1365
  have t1402 : mT m1376 a1201 = 35 := by rw [hm1376]; exact t1366
  have t1403 : mT m1376 a1233 = 35 := by rw [hm1376]; exact t1367
  have t1404 : mT m1376 a1266 = 35 := by rw [hm1376]; exact t1368
  have t1405 : mT m1376 a1300 = 35 := by rw [hm1376]; exact t1369
  have t1406 : mT m1376 a1335 = 35 := by rw [hm1376]; exact t1370
  have t1407 : mT m1376 a1371 = 35 := by rw [hm1376]; exact t1374
  refine (p_last (pc := 1328) hm1376 (by decide +kernel : decode k_R_init.2.1 1328 = .ok (.lastore, 1)) t1374 rfl g1375) ?_
  refine (p_aload_n (pc := 1329) (k := 0) (by decide +kernel : decode k_R_init.2.1 1329 = .ok (.aload_n 0, 1)) rfl rfl) ?_
  obtain ⟨a1408, o1409, h⟩ := gs_some h
  refine (p_getr (pc := 1330) o1409 (by decide +kernel : decode k_R_init.2.1 1330 = .ok (.getfield 34, 3)) lg_12_34 t1378) ?_
  refine (r_bipush (pc := 1333) (by decide +kernel : decode k_R_init.2.1 1333 = .ok (.bipush (29), 2)) (by decide : _ = (29 : Int32))) ?_
  refine (r_bipush (pc := 1335) (by decide +kernel : decode k_R_init.2.1 1335 = .ok (.bipush (121), 2)) (by decide : _ = (121 : Int32))) ?_
  refine (r_bipush (pc := 1337) (by decide +kernel : decode k_R_init.2.1 1337 = .ok (.bipush (101), 2)) (by decide : _ = (101 : Int32))) ?_
  refine (r_bipush (pc := 1339) (by decide +kernel : decode k_R_init.2.1 1339 = .ok (.bipush (97), 2)) (by decide : _ = (97 : Int32))) ?_
  refine (r_bipush (pc := 1341) (by decide +kernel : decode k_R_init.2.1 1341 = .ok (.bipush (114), 2)) (by decide : _ = (114 : Int32))) ?_
  refine (r_bipush (pc := 1343) (by decide +kernel : decode k_R_init.2.1 1343 = .ok (.bipush (115), 2)) (by decide : _ = (115 : Int32))) ?_
  refine (r_iconst (pc := 1345) (by decide +kernel : decode k_R_init.2.1 1345 = .ok (.iconst 0, 1)) ic_0) ?_
  refine (r_iconst (pc := 1346) (by decide +kernel : decode k_R_init.2.1 1346 = .ok (.iconst 0, 1)) ic_0) ?_
  obtain ⟨r1410, hr1410, h⟩ := bp_some h
  refine (q_callS (pc := 1347) (As := [.int 121, .int 101, .int 97, .int 114, .int 115, .int 0, .int 0]) (st := [.int 29, .ref a1408]) (st2 := [.long r1410, .int 29, .ref a1408]) rfl rfl (by decide +kernel : decode k_R_init.2.1 1347 = .ok (.invokestatic 272, 3)) lc_12_272 mo_R_word ⟨Nat.le_of_ble_eq_true rfl, Nat.le_of_ble_eq_true rfl⟩ (Nat.le_of_ble_eq_true rfl) (Nat.le_of_ble_eq_true rfl) (R_word_run hr1410)) ?_
  obtain ⟨t1411, h⟩ := gt_some h
  obtain ⟨g1412, h⟩ := gd_some h
  obtain ⟨m1413, hm1413, h⟩ := vb_some h
  have t1414 : mT m1413 (mC m729) = 32 := by rw [hm1413]; exact t1377
  have t1415 : mT m1413 a0 = 13 := by rw [hm1413]; exact t1378
  have t1416 : mT m1413 a741 = 35 := by rw [hm1413]; exact t1379
  have t1417 : mT m1413 a750 = 35 := by rw [hm1413]; exact t1380
  have t1418 : mT m1413 a760 = 35 := by rw [hm1413]; exact t1381
  have t1419 : mT m1413 a771 = 35 := by rw [hm1413]; exact t1382
  have t1420 : mT m1413 a783 = 35 := by rw [hm1413]; exact t1383
  have t1421 : mT m1413 a796 = 35 := by rw [hm1413]; exact t1384
  have t1422 : mT m1413 a810 = 35 := by rw [hm1413]; exact t1385
  have t1423 : mT m1413 a825 = 35 := by rw [hm1413]; exact t1386
  have t1424 : mT m1413 a841 = 35 := by rw [hm1413]; exact t1387
  have t1425 : mT m1413 a858 = 35 := by rw [hm1413]; exact t1388
  have t1426 : mT m1413 a876 = 35 := by rw [hm1413]; exact t1389
  have t1427 : mT m1413 a895 = 35 := by rw [hm1413]; exact t1390
  have t1428 : mT m1413 a915 = 35 := by rw [hm1413]; exact t1391
  have t1429 : mT m1413 a936 = 35 := by rw [hm1413]; exact t1392
  have t1430 : mT m1413 a958 = 35 := by rw [hm1413]; exact t1393
  have t1431 : mT m1413 a981 = 35 := by rw [hm1413]; exact t1394
  have t1432 : mT m1413 a1005 = 35 := by rw [hm1413]; exact t1395
  have t1433 : mT m1413 a1030 = 35 := by rw [hm1413]; exact t1396
  have t1434 : mT m1413 a1056 = 35 := by rw [hm1413]; exact t1397
  have t1435 : mT m1413 a1083 = 35 := by rw [hm1413]; exact t1398
  have t1436 : mT m1413 a1111 = 35 := by rw [hm1413]; exact t1399
  have t1437 : mT m1413 a1140 = 35 := by rw [hm1413]; exact t1400
  have t1438 : mT m1413 a1170 = 35 := by rw [hm1413]; exact t1401
  have t1439 : mT m1413 a1201 = 35 := by rw [hm1413]; exact t1402
  have t1440 : mT m1413 a1233 = 35 := by rw [hm1413]; exact t1403
  have t1441 : mT m1413 a1266 = 35 := by rw [hm1413]; exact t1404
  have t1442 : mT m1413 a1300 = 35 := by rw [hm1413]; exact t1405
  have t1443 : mT m1413 a1335 = 35 := by rw [hm1413]; exact t1406
  have t1444 : mT m1413 a1371 = 35 := by rw [hm1413]; exact t1407
  have t1445 : mT m1413 a1408 = 35 := by rw [hm1413]; exact t1411
  refine (p_last (pc := 1350) hm1413 (by decide +kernel : decode k_R_init.2.1 1350 = .ok (.lastore, 1)) t1411 rfl g1412) ?_
  refine (p_aload_n (pc := 1351) (k := 0) (by decide +kernel : decode k_R_init.2.1 1351 = .ok (.aload_n 0, 1)) rfl rfl) ?_
  obtain ⟨a1446, o1447, h⟩ := gs_some h
  refine (p_getr (pc := 1352) o1447 (by decide +kernel : decode k_R_init.2.1 1352 = .ok (.getfield 34, 3)) lg_12_34 t1415) ?_
  refine (r_bipush (pc := 1355) (by decide +kernel : decode k_R_init.2.1 1355 = .ok (.bipush (30), 2)) (by decide : _ = (30 : Int32))) ?_
  refine (r_bipush (pc := 1357) (by decide +kernel : decode k_R_init.2.1 1357 = .ok (.bipush (116), 2)) (by decide : _ = (116 : Int32))) ?_
  refine (r_bipush (pc := 1359) (by decide +kernel : decode k_R_init.2.1 1359 = .ok (.bipush (114), 2)) (by decide : _ = (114 : Int32))) ?_
  refine (r_bipush (pc := 1361) (by decide +kernel : decode k_R_init.2.1 1361 = .ok (.bipush (97), 2)) (by decide : _ = (97 : Int32))) ?_
  refine (r_bipush (pc := 1363) (by decide +kernel : decode k_R_init.2.1 1363 = .ok (.bipush (100), 2)) (by decide : _ = (100 : Int32))) ?_
  refine (r_bipush (pc := 1365) (by decide +kernel : decode k_R_init.2.1 1365 = .ok (.bipush (101), 2)) (by decide : _ = (101 : Int32))) ?_
  refine (r_iconst (pc := 1367) (by decide +kernel : decode k_R_init.2.1 1367 = .ok (.iconst 0, 1)) ic_0) ?_
  refine (r_iconst (pc := 1368) (by decide +kernel : decode k_R_init.2.1 1368 = .ok (.iconst 0, 1)) ic_0) ?_
  obtain ⟨r1448, hr1448, h⟩ := bp_some h
  refine (q_callS (pc := 1369) (As := [.int 116, .int 114, .int 97, .int 100, .int 101, .int 0, .int 0]) (st := [.int 30, .ref a1446]) (st2 := [.long r1448, .int 30, .ref a1446]) rfl rfl (by decide +kernel : decode k_R_init.2.1 1369 = .ok (.invokestatic 272, 3)) lc_12_272 mo_R_word ⟨Nat.le_of_ble_eq_true rfl, Nat.le_of_ble_eq_true rfl⟩ (Nat.le_of_ble_eq_true rfl) (Nat.le_of_ble_eq_true rfl) (R_word_run hr1448)) ?_
  obtain ⟨t1449, h⟩ := gt_some h
  obtain ⟨g1450, h⟩ := gd_some h
  obtain ⟨m1451, hm1451, h⟩ := vb_some h
  have t1452 : mT m1451 (mC m729) = 32 := by rw [hm1451]; exact t1414
  have t1453 : mT m1451 a0 = 13 := by rw [hm1451]; exact t1415
  have t1454 : mT m1451 a741 = 35 := by rw [hm1451]; exact t1416
  have t1455 : mT m1451 a750 = 35 := by rw [hm1451]; exact t1417
  have t1456 : mT m1451 a760 = 35 := by rw [hm1451]; exact t1418
  have t1457 : mT m1451 a771 = 35 := by rw [hm1451]; exact t1419
  have t1458 : mT m1451 a783 = 35 := by rw [hm1451]; exact t1420
  have t1459 : mT m1451 a796 = 35 := by rw [hm1451]; exact t1421
  have t1460 : mT m1451 a810 = 35 := by rw [hm1451]; exact t1422
  have t1461 : mT m1451 a825 = 35 := by rw [hm1451]; exact t1423
  have t1462 : mT m1451 a841 = 35 := by rw [hm1451]; exact t1424
  have t1463 : mT m1451 a858 = 35 := by rw [hm1451]; exact t1425
  have t1464 : mT m1451 a876 = 35 := by rw [hm1451]; exact t1426
  have t1465 : mT m1451 a895 = 35 := by rw [hm1451]; exact t1427
  have t1466 : mT m1451 a915 = 35 := by rw [hm1451]; exact t1428
  have t1467 : mT m1451 a936 = 35 := by rw [hm1451]; exact t1429
  have t1468 : mT m1451 a958 = 35 := by rw [hm1451]; exact t1430
  have t1469 : mT m1451 a981 = 35 := by rw [hm1451]; exact t1431
  have t1470 : mT m1451 a1005 = 35 := by rw [hm1451]; exact t1432
  have t1471 : mT m1451 a1030 = 35 := by rw [hm1451]; exact t1433
  have t1472 : mT m1451 a1056 = 35 := by rw [hm1451]; exact t1434
  have t1473 : mT m1451 a1083 = 35 := by rw [hm1451]; exact t1435
  have t1474 : mT m1451 a1111 = 35 := by rw [hm1451]; exact t1436
  have t1475 : mT m1451 a1140 = 35 := by rw [hm1451]; exact t1437
  have t1476 : mT m1451 a1170 = 35 := by rw [hm1451]; exact t1438
  have t1477 : mT m1451 a1201 = 35 := by rw [hm1451]; exact t1439
  have t1478 : mT m1451 a1233 = 35 := by rw [hm1451]; exact t1440
  have t1479 : mT m1451 a1266 = 35 := by rw [hm1451]; exact t1441
  have t1480 : mT m1451 a1300 = 35 := by rw [hm1451]; exact t1442
  have t1481 : mT m1451 a1335 = 35 := by rw [hm1451]; exact t1443
  have t1482 : mT m1451 a1371 = 35 := by rw [hm1451]; exact t1444
  have t1483 : mT m1451 a1408 = 35 := by rw [hm1451]; exact t1445
  have t1484 : mT m1451 a1446 = 35 := by rw [hm1451]; exact t1449
  refine (p_last (pc := 1372) hm1451 (by decide +kernel : decode k_R_init.2.1 1372 = .ok (.lastore, 1)) t1449 rfl g1450) ?_
  refine (p_aload_n (pc := 1373) (k := 0) (by decide +kernel : decode k_R_init.2.1 1373 = .ok (.aload_n 0, 1)) rfl rfl) ?_
  obtain ⟨a1485, o1486, h⟩ := gs_some h
  refine (p_getr (pc := 1374) o1486 (by decide +kernel : decode k_R_init.2.1 1374 = .ok (.getfield 34, 3)) lg_12_34 t1453) ?_
  refine (r_bipush (pc := 1377) (by decide +kernel : decode k_R_init.2.1 1377 = .ok (.bipush (31), 2)) (by decide : _ = (31 : Int32))) ?_
  refine (r_bipush (pc := 1379) (by decide +kernel : decode k_R_init.2.1 1379 = .ok (.bipush (116), 2)) (by decide : _ = (116 : Int32))) ?_
  refine (r_bipush (pc := 1381) (by decide +kernel : decode k_R_init.2.1 1381 = .ok (.bipush (111), 2)) (by decide : _ = (111 : Int32))) ?_
  refine (r_bipush (pc := 1383) (by decide +kernel : decode k_R_init.2.1 1383 = .ok (.bipush (119), 2)) (by decide : _ = (119 : Int32))) ?_
  refine (r_bipush (pc := 1385) (by decide +kernel : decode k_R_init.2.1 1385 = .ok (.bipush (110), 2)) (by decide : _ = (110 : Int32))) ?_
  refine (r_iconst (pc := 1387) (by decide +kernel : decode k_R_init.2.1 1387 = .ok (.iconst 0, 1)) ic_0) ?_
  refine (r_iconst (pc := 1388) (by decide +kernel : decode k_R_init.2.1 1388 = .ok (.iconst 0, 1)) ic_0) ?_
  refine (r_iconst (pc := 1389) (by decide +kernel : decode k_R_init.2.1 1389 = .ok (.iconst 0, 1)) ic_0) ?_
  obtain ⟨r1487, hr1487, h⟩ := bp_some h
  refine (q_callS (pc := 1390) (As := [.int 116, .int 111, .int 119, .int 110, .int 0, .int 0, .int 0]) (st := [.int 31, .ref a1485]) (st2 := [.long r1487, .int 31, .ref a1485]) rfl rfl (by decide +kernel : decode k_R_init.2.1 1390 = .ok (.invokestatic 272, 3)) lc_12_272 mo_R_word ⟨Nat.le_of_ble_eq_true rfl, Nat.le_of_ble_eq_true rfl⟩ (Nat.le_of_ble_eq_true rfl) (Nat.le_of_ble_eq_true rfl) (R_word_run hr1487)) ?_
  obtain ⟨t1488, h⟩ := gt_some h
  obtain ⟨g1489, h⟩ := gd_some h
  obtain ⟨m1490, hm1490, h⟩ := vb_some h
  have t1491 : mT m1490 (mC m729) = 32 := by rw [hm1490]; exact t1452
  have t1492 : mT m1490 a0 = 13 := by rw [hm1490]; exact t1453
  have t1493 : mT m1490 a741 = 35 := by rw [hm1490]; exact t1454
  have t1494 : mT m1490 a750 = 35 := by rw [hm1490]; exact t1455
  have t1495 : mT m1490 a760 = 35 := by rw [hm1490]; exact t1456
  have t1496 : mT m1490 a771 = 35 := by rw [hm1490]; exact t1457
  have t1497 : mT m1490 a783 = 35 := by rw [hm1490]; exact t1458
  have t1498 : mT m1490 a796 = 35 := by rw [hm1490]; exact t1459
  have t1499 : mT m1490 a810 = 35 := by rw [hm1490]; exact t1460
  have t1500 : mT m1490 a825 = 35 := by rw [hm1490]; exact t1461
  have t1501 : mT m1490 a841 = 35 := by rw [hm1490]; exact t1462
  have t1502 : mT m1490 a858 = 35 := by rw [hm1490]; exact t1463
  have t1503 : mT m1490 a876 = 35 := by rw [hm1490]; exact t1464
  have t1504 : mT m1490 a895 = 35 := by rw [hm1490]; exact t1465
  have t1505 : mT m1490 a915 = 35 := by rw [hm1490]; exact t1466
  have t1506 : mT m1490 a936 = 35 := by rw [hm1490]; exact t1467
  have t1507 : mT m1490 a958 = 35 := by rw [hm1490]; exact t1468
  have t1508 : mT m1490 a981 = 35 := by rw [hm1490]; exact t1469
  have t1509 : mT m1490 a1005 = 35 := by rw [hm1490]; exact t1470
  have t1510 : mT m1490 a1030 = 35 := by rw [hm1490]; exact t1471
  have t1511 : mT m1490 a1056 = 35 := by rw [hm1490]; exact t1472
  have t1512 : mT m1490 a1083 = 35 := by rw [hm1490]; exact t1473
  have t1513 : mT m1490 a1111 = 35 := by rw [hm1490]; exact t1474
  have t1514 : mT m1490 a1140 = 35 := by rw [hm1490]; exact t1475
  have t1515 : mT m1490 a1170 = 35 := by rw [hm1490]; exact t1476
  have t1516 : mT m1490 a1201 = 35 := by rw [hm1490]; exact t1477
  have t1517 : mT m1490 a1233 = 35 := by rw [hm1490]; exact t1478
  have t1518 : mT m1490 a1266 = 35 := by rw [hm1490]; exact t1479
  have t1519 : mT m1490 a1300 = 35 := by rw [hm1490]; exact t1480
  have t1520 : mT m1490 a1335 = 35 := by rw [hm1490]; exact t1481
  have t1521 : mT m1490 a1371 = 35 := by rw [hm1490]; exact t1482
  have t1522 : mT m1490 a1408 = 35 := by rw [hm1490]; exact t1483
  have t1523 : mT m1490 a1446 = 35 := by rw [hm1490]; exact t1484
  have t1524 : mT m1490 a1485 = 35 := by rw [hm1490]; exact t1488
  refine (p_last (pc := 1393) hm1490 (by decide +kernel : decode k_R_init.2.1 1393 = .ok (.lastore, 1)) t1488 rfl g1489) ?_
  refine (p_aload_n (pc := 1394) (k := 0) (by decide +kernel : decode k_R_init.2.1 1394 = .ok (.aload_n 0, 1)) rfl rfl) ?_
  obtain ⟨a1525, o1526, h⟩ := gs_some h
  refine (p_getr (pc := 1395) o1526 (by decide +kernel : decode k_R_init.2.1 1395 = .ok (.getfield 34, 3)) lg_12_34 t1492) ?_
  refine (r_bipush (pc := 1398) (by decide +kernel : decode k_R_init.2.1 1398 = .ok (.bipush (32), 2)) (by decide : _ = (32 : Int32))) ?_
  refine (r_bipush (pc := 1400) (by decide +kernel : decode k_R_init.2.1 1400 = .ok (.bipush (119), 2)) (by decide : _ = (119 : Int32))) ?_
  refine (r_bipush (pc := 1402) (by decide +kernel : decode k_R_init.2.1 1402 = .ok (.bipush (104), 2)) (by decide : _ = (104 : Int32))) ?_
  refine (r_bipush (pc := 1404) (by decide +kernel : decode k_R_init.2.1 1404 = .ok (.bipush (111), 2)) (by decide : _ = (111 : Int32))) ?_
  refine (r_iconst (pc := 1406) (by decide +kernel : decode k_R_init.2.1 1406 = .ok (.iconst 0, 1)) ic_0) ?_
  refine (r_iconst (pc := 1407) (by decide +kernel : decode k_R_init.2.1 1407 = .ok (.iconst 0, 1)) ic_0) ?_
  refine (r_iconst (pc := 1408) (by decide +kernel : decode k_R_init.2.1 1408 = .ok (.iconst 0, 1)) ic_0) ?_
  refine (r_iconst (pc := 1409) (by decide +kernel : decode k_R_init.2.1 1409 = .ok (.iconst 0, 1)) ic_0) ?_
  obtain ⟨r1527, hr1527, h⟩ := bp_some h
  refine (q_callS (pc := 1410) (As := [.int 119, .int 104, .int 111, .int 0, .int 0, .int 0, .int 0]) (st := [.int 32, .ref a1525]) (st2 := [.long r1527, .int 32, .ref a1525]) rfl rfl (by decide +kernel : decode k_R_init.2.1 1410 = .ok (.invokestatic 272, 3)) lc_12_272 mo_R_word ⟨Nat.le_of_ble_eq_true rfl, Nat.le_of_ble_eq_true rfl⟩ (Nat.le_of_ble_eq_true rfl) (Nat.le_of_ble_eq_true rfl) (R_word_run hr1527)) ?_
  obtain ⟨t1528, h⟩ := gt_some h
  obtain ⟨g1529, h⟩ := gd_some h
  obtain ⟨m1530, hm1530, h⟩ := vb_some h
  have t1531 : mT m1530 (mC m729) = 32 := by rw [hm1530]; exact t1491
  have t1532 : mT m1530 a0 = 13 := by rw [hm1530]; exact t1492
  have t1533 : mT m1530 a741 = 35 := by rw [hm1530]; exact t1493
  have t1534 : mT m1530 a750 = 35 := by rw [hm1530]; exact t1494
  have t1535 : mT m1530 a760 = 35 := by rw [hm1530]; exact t1495
  have t1536 : mT m1530 a771 = 35 := by rw [hm1530]; exact t1496
  have t1537 : mT m1530 a783 = 35 := by rw [hm1530]; exact t1497
  have t1538 : mT m1530 a796 = 35 := by rw [hm1530]; exact t1498
  have t1539 : mT m1530 a810 = 35 := by rw [hm1530]; exact t1499
  have t1540 : mT m1530 a825 = 35 := by rw [hm1530]; exact t1500
  have t1541 : mT m1530 a841 = 35 := by rw [hm1530]; exact t1501
  have t1542 : mT m1530 a858 = 35 := by rw [hm1530]; exact t1502
  have t1543 : mT m1530 a876 = 35 := by rw [hm1530]; exact t1503
  have t1544 : mT m1530 a895 = 35 := by rw [hm1530]; exact t1504
  have t1545 : mT m1530 a915 = 35 := by rw [hm1530]; exact t1505
  have t1546 : mT m1530 a936 = 35 := by rw [hm1530]; exact t1506
  have t1547 : mT m1530 a958 = 35 := by rw [hm1530]; exact t1507
  have t1548 : mT m1530 a981 = 35 := by rw [hm1530]; exact t1508
  have t1549 : mT m1530 a1005 = 35 := by rw [hm1530]; exact t1509
  have t1550 : mT m1530 a1030 = 35 := by rw [hm1530]; exact t1510
  have t1551 : mT m1530 a1056 = 35 := by rw [hm1530]; exact t1511
  have t1552 : mT m1530 a1083 = 35 := by rw [hm1530]; exact t1512
  have t1553 : mT m1530 a1111 = 35 := by rw [hm1530]; exact t1513
  have t1554 : mT m1530 a1140 = 35 := by rw [hm1530]; exact t1514
  have t1555 : mT m1530 a1170 = 35 := by rw [hm1530]; exact t1515
  have t1556 : mT m1530 a1201 = 35 := by rw [hm1530]; exact t1516
  have t1557 : mT m1530 a1233 = 35 := by rw [hm1530]; exact t1517
  have t1558 : mT m1530 a1266 = 35 := by rw [hm1530]; exact t1518
  have t1559 : mT m1530 a1300 = 35 := by rw [hm1530]; exact t1519
  have t1560 : mT m1530 a1335 = 35 := by rw [hm1530]; exact t1520
  have t1561 : mT m1530 a1371 = 35 := by rw [hm1530]; exact t1521
  have t1562 : mT m1530 a1408 = 35 := by rw [hm1530]; exact t1522
  have t1563 : mT m1530 a1446 = 35 := by rw [hm1530]; exact t1523
  have t1564 : mT m1530 a1485 = 35 := by rw [hm1530]; exact t1524
  have t1565 : mT m1530 a1525 = 35 := by rw [hm1530]; exact t1528
  refine (p_last (pc := 1413) hm1530 (by decide +kernel : decode k_R_init.2.1 1413 = .ok (.lastore, 1)) t1528 rfl g1529) ?_
  refine (p_aload_n (pc := 1414) (k := 0) (by decide +kernel : decode k_R_init.2.1 1414 = .ok (.aload_n 0, 1)) rfl rfl) ?_
  obtain ⟨a1566, o1567, h⟩ := gs_some h
  refine (p_getr (pc := 1415) o1567 (by decide +kernel : decode k_R_init.2.1 1415 = .ok (.getfield 34, 3)) lg_12_34 t1532) ?_
  refine (r_bipush (pc := 1418) (by decide +kernel : decode k_R_init.2.1 1418 = .ok (.bipush (33), 2)) (by decide : _ = (33 : Int32))) ?_
  refine (r_bipush (pc := 1420) (by decide +kernel : decode k_R_init.2.1 1420 = .ok (.bipush (116), 2)) (by decide : _ = (116 : Int32))) ?_
  refine (r_bipush (pc := 1422) (by decide +kernel : decode k_R_init.2.1 1422 = .ok (.bipush (97), 2)) (by decide : _ = (97 : Int32))) ?_
  refine (r_bipush (pc := 1424) (by decide +kernel : decode k_R_init.2.1 1424 = .ok (.bipush (115), 2)) (by decide : _ = (115 : Int32))) ?_
  refine (r_bipush (pc := 1426) (by decide +kernel : decode k_R_init.2.1 1426 = .ok (.bipush (107), 2)) (by decide : _ = (107 : Int32))) ?_
  refine (r_iconst (pc := 1428) (by decide +kernel : decode k_R_init.2.1 1428 = .ok (.iconst 0, 1)) ic_0) ?_
  refine (r_iconst (pc := 1429) (by decide +kernel : decode k_R_init.2.1 1429 = .ok (.iconst 0, 1)) ic_0) ?_
  refine (r_iconst (pc := 1430) (by decide +kernel : decode k_R_init.2.1 1430 = .ok (.iconst 0, 1)) ic_0) ?_
  obtain ⟨r1568, hr1568, h⟩ := bp_some h
  refine (q_callS (pc := 1431) (As := [.int 116, .int 97, .int 115, .int 107, .int 0, .int 0, .int 0]) (st := [.int 33, .ref a1566]) (st2 := [.long r1568, .int 33, .ref a1566]) rfl rfl (by decide +kernel : decode k_R_init.2.1 1431 = .ok (.invokestatic 272, 3)) lc_12_272 mo_R_word ⟨Nat.le_of_ble_eq_true rfl, Nat.le_of_ble_eq_true rfl⟩ (Nat.le_of_ble_eq_true rfl) (Nat.le_of_ble_eq_true rfl) (R_word_run hr1568)) ?_
  obtain ⟨t1569, h⟩ := gt_some h
  obtain ⟨g1570, h⟩ := gd_some h
  obtain ⟨m1571, hm1571, h⟩ := vb_some h
  have t1572 : mT m1571 (mC m729) = 32 := by rw [hm1571]; exact t1531
  have t1573 : mT m1571 a0 = 13 := by rw [hm1571]; exact t1532
  have t1574 : mT m1571 a741 = 35 := by rw [hm1571]; exact t1533
  have t1575 : mT m1571 a750 = 35 := by rw [hm1571]; exact t1534
  have t1576 : mT m1571 a760 = 35 := by rw [hm1571]; exact t1535
  have t1577 : mT m1571 a771 = 35 := by rw [hm1571]; exact t1536
  have t1578 : mT m1571 a783 = 35 := by rw [hm1571]; exact t1537
  have t1579 : mT m1571 a796 = 35 := by rw [hm1571]; exact t1538
  have t1580 : mT m1571 a810 = 35 := by rw [hm1571]; exact t1539
  have t1581 : mT m1571 a825 = 35 := by rw [hm1571]; exact t1540
  have t1582 : mT m1571 a841 = 35 := by rw [hm1571]; exact t1541
  have t1583 : mT m1571 a858 = 35 := by rw [hm1571]; exact t1542
  have t1584 : mT m1571 a876 = 35 := by rw [hm1571]; exact t1543
  have t1585 : mT m1571 a895 = 35 := by rw [hm1571]; exact t1544
  have t1586 : mT m1571 a915 = 35 := by rw [hm1571]; exact t1545
  have t1587 : mT m1571 a936 = 35 := by rw [hm1571]; exact t1546
  have t1588 : mT m1571 a958 = 35 := by rw [hm1571]; exact t1547
  have t1589 : mT m1571 a981 = 35 := by rw [hm1571]; exact t1548
  have t1590 : mT m1571 a1005 = 35 := by rw [hm1571]; exact t1549
  have t1591 : mT m1571 a1030 = 35 := by rw [hm1571]; exact t1550
  have t1592 : mT m1571 a1056 = 35 := by rw [hm1571]; exact t1551
  have t1593 : mT m1571 a1083 = 35 := by rw [hm1571]; exact t1552
  have t1594 : mT m1571 a1111 = 35 := by rw [hm1571]; exact t1553
  have t1595 : mT m1571 a1140 = 35 := by rw [hm1571]; exact t1554
  have t1596 : mT m1571 a1170 = 35 := by rw [hm1571]; exact t1555
  have t1597 : mT m1571 a1201 = 35 := by rw [hm1571]; exact t1556
  have t1598 : mT m1571 a1233 = 35 := by rw [hm1571]; exact t1557
  have t1599 : mT m1571 a1266 = 35 := by rw [hm1571]; exact t1558
  have t1600 : mT m1571 a1300 = 35 := by rw [hm1571]; exact t1559
  have t1601 : mT m1571 a1335 = 35 := by rw [hm1571]; exact t1560
  have t1602 : mT m1571 a1371 = 35 := by rw [hm1571]; exact t1561
  have t1603 : mT m1571 a1408 = 35 := by rw [hm1571]; exact t1562
  have t1604 : mT m1571 a1446 = 35 := by rw [hm1571]; exact t1563
  have t1605 : mT m1571 a1485 = 35 := by rw [hm1571]; exact t1564
  have t1606 : mT m1571 a1525 = 35 := by rw [hm1571]; exact t1565
  have t1607 : mT m1571 a1566 = 35 := by rw [hm1571]; exact t1569
  refine (p_last (pc := 1434) hm1571 (by decide +kernel : decode k_R_init.2.1 1434 = .ok (.lastore, 1)) t1569 rfl g1570) ?_
  refine (p_aload_n (pc := 1435) (k := 0) (by decide +kernel : decode k_R_init.2.1 1435 = .ok (.aload_n 0, 1)) rfl rfl) ?_
  obtain ⟨a1608, o1609, h⟩ := gs_some h
  refine (p_getr (pc := 1436) o1609 (by decide +kernel : decode k_R_init.2.1 1436 = .ok (.getfield 34, 3)) lg_12_34 t1573) ?_
  refine (r_bipush (pc := 1439) (by decide +kernel : decode k_R_init.2.1 1439 = .ok (.bipush (34), 2)) (by decide : _ = (34 : Int32))) ?_
  refine (r_bipush (pc := 1441) (by decide +kernel : decode k_R_init.2.1 1441 = .ok (.bipush (119), 2)) (by decide : _ = (119 : Int32))) ?_
  refine (r_bipush (pc := 1443) (by decide +kernel : decode k_R_init.2.1 1443 = .ok (.bipush (101), 2)) (by decide : _ = (101 : Int32))) ?_
  refine (r_bipush (pc := 1445) (by decide +kernel : decode k_R_init.2.1 1445 = .ok (.bipush (101), 2)) (by decide : _ = (101 : Int32))) ?_
  refine (r_bipush (pc := 1447) (by decide +kernel : decode k_R_init.2.1 1447 = .ok (.bipush (107), 2)) (by decide : _ = (107 : Int32))) ?_
  refine (r_bipush (pc := 1449) (by decide +kernel : decode k_R_init.2.1 1449 = .ok (.bipush (100), 2)) (by decide : _ = (100 : Int32))) ?_
  refine (r_bipush (pc := 1451) (by decide +kernel : decode k_R_init.2.1 1451 = .ok (.bipush (97), 2)) (by decide : _ = (97 : Int32))) ?_
  refine (r_bipush (pc := 1453) (by decide +kernel : decode k_R_init.2.1 1453 = .ok (.bipush (121), 2)) (by decide : _ = (121 : Int32))) ?_
  obtain ⟨r1610, hr1610, h⟩ := bp_some h
  refine (q_callS (pc := 1455) (As := [.int 119, .int 101, .int 101, .int 107, .int 100, .int 97, .int 121]) (st := [.int 34, .ref a1608]) (st2 := [.long r1610, .int 34, .ref a1608]) rfl rfl (by decide +kernel : decode k_R_init.2.1 1455 = .ok (.invokestatic 272, 3)) lc_12_272 mo_R_word ⟨Nat.le_of_ble_eq_true rfl, Nat.le_of_ble_eq_true rfl⟩ (Nat.le_of_ble_eq_true rfl) (Nat.le_of_ble_eq_true rfl) (R_word_run hr1610)) ?_
  obtain ⟨t1611, h⟩ := gt_some h
  obtain ⟨g1612, h⟩ := gd_some h
  obtain ⟨m1613, hm1613, h⟩ := vb_some h
  have t1614 : mT m1613 (mC m729) = 32 := by rw [hm1613]; exact t1572
  have t1615 : mT m1613 a0 = 13 := by rw [hm1613]; exact t1573
  have t1616 : mT m1613 a741 = 35 := by rw [hm1613]; exact t1574
  have t1617 : mT m1613 a750 = 35 := by rw [hm1613]; exact t1575
  have t1618 : mT m1613 a760 = 35 := by rw [hm1613]; exact t1576
  have t1619 : mT m1613 a771 = 35 := by rw [hm1613]; exact t1577
  have t1620 : mT m1613 a783 = 35 := by rw [hm1613]; exact t1578
  have t1621 : mT m1613 a796 = 35 := by rw [hm1613]; exact t1579
  have t1622 : mT m1613 a810 = 35 := by rw [hm1613]; exact t1580
  have t1623 : mT m1613 a825 = 35 := by rw [hm1613]; exact t1581
  have t1624 : mT m1613 a841 = 35 := by rw [hm1613]; exact t1582
  have t1625 : mT m1613 a858 = 35 := by rw [hm1613]; exact t1583
  have t1626 : mT m1613 a876 = 35 := by rw [hm1613]; exact t1584
  have t1627 : mT m1613 a895 = 35 := by rw [hm1613]; exact t1585
  have t1628 : mT m1613 a915 = 35 := by rw [hm1613]; exact t1586
  have t1629 : mT m1613 a936 = 35 := by rw [hm1613]; exact t1587
  have t1630 : mT m1613 a958 = 35 := by rw [hm1613]; exact t1588
  have t1631 : mT m1613 a981 = 35 := by rw [hm1613]; exact t1589
  have t1632 : mT m1613 a1005 = 35 := by rw [hm1613]; exact t1590
  have t1633 : mT m1613 a1030 = 35 := by rw [hm1613]; exact t1591
  have t1634 : mT m1613 a1056 = 35 := by rw [hm1613]; exact t1592
  have t1635 : mT m1613 a1083 = 35 := by rw [hm1613]; exact t1593
  have t1636 : mT m1613 a1111 = 35 := by rw [hm1613]; exact t1594
  have t1637 : mT m1613 a1140 = 35 := by rw [hm1613]; exact t1595
  have t1638 : mT m1613 a1170 = 35 := by rw [hm1613]; exact t1596
  have t1639 : mT m1613 a1201 = 35 := by rw [hm1613]; exact t1597
  have t1640 : mT m1613 a1233 = 35 := by rw [hm1613]; exact t1598
  have t1641 : mT m1613 a1266 = 35 := by rw [hm1613]; exact t1599
  have t1642 : mT m1613 a1300 = 35 := by rw [hm1613]; exact t1600
  have t1643 : mT m1613 a1335 = 35 := by rw [hm1613]; exact t1601
  have t1644 : mT m1613 a1371 = 35 := by rw [hm1613]; exact t1602
  have t1645 : mT m1613 a1408 = 35 := by rw [hm1613]; exact t1603
  have t1646 : mT m1613 a1446 = 35 := by rw [hm1613]; exact t1604
  have t1647 : mT m1613 a1485 = 35 := by rw [hm1613]; exact t1605
  have t1648 : mT m1613 a1525 = 35 := by rw [hm1613]; exact t1606
  have t1649 : mT m1613 a1566 = 35 := by rw [hm1613]; exact t1607
  have t1650 : mT m1613 a1608 = 35 := by rw [hm1613]; exact t1611
  refine (p_last (pc := 1458) hm1613 (by decide +kernel : decode k_R_init.2.1 1458 = .ok (.lastore, 1)) t1611 rfl g1612) ?_
  refine (p_aload_n (pc := 1459) (k := 0) (by decide +kernel : decode k_R_init.2.1 1459 = .ok (.aload_n 0, 1)) rfl rfl) ?_
  obtain ⟨a1651, o1652, h⟩ := gs_some h
  refine (p_getr (pc := 1460) o1652 (by decide +kernel : decode k_R_init.2.1 1460 = .ok (.getfield 34, 3)) lg_12_34 t1615) ?_
  refine (r_bipush (pc := 1463) (by decide +kernel : decode k_R_init.2.1 1463 = .ok (.bipush (35), 2)) (by decide : _ = (35 : Int32))) ?_
  refine (r_bipush (pc := 1465) (by decide +kernel : decode k_R_init.2.1 1465 = .ok (.bipush (104), 2)) (by decide : _ = (104 : Int32))) ?_
  refine (r_bipush (pc := 1467) (by decide +kernel : decode k_R_init.2.1 1467 = .ok (.bipush (97), 2)) (by decide : _ = (97 : Int32))) ?_
  refine (r_bipush (pc := 1469) (by decide +kernel : decode k_R_init.2.1 1469 = .ok (.bipush (108), 2)) (by decide : _ = (108 : Int32))) ?_
  refine (r_bipush (pc := 1471) (by decide +kernel : decode k_R_init.2.1 1471 = .ok (.bipush (102), 2)) (by decide : _ = (102 : Int32))) ?_
  refine (r_iconst (pc := 1473) (by decide +kernel : decode k_R_init.2.1 1473 = .ok (.iconst 0, 1)) ic_0) ?_
  refine (r_iconst (pc := 1474) (by decide +kernel : decode k_R_init.2.1 1474 = .ok (.iconst 0, 1)) ic_0) ?_
  refine (r_iconst (pc := 1475) (by decide +kernel : decode k_R_init.2.1 1475 = .ok (.iconst 0, 1)) ic_0) ?_
  obtain ⟨r1653, hr1653, h⟩ := bp_some h
  refine (q_callS (pc := 1476) (As := [.int 104, .int 97, .int 108, .int 102, .int 0, .int 0, .int 0]) (st := [.int 35, .ref a1651]) (st2 := [.long r1653, .int 35, .ref a1651]) rfl rfl (by decide +kernel : decode k_R_init.2.1 1476 = .ok (.invokestatic 272, 3)) lc_12_272 mo_R_word ⟨Nat.le_of_ble_eq_true rfl, Nat.le_of_ble_eq_true rfl⟩ (Nat.le_of_ble_eq_true rfl) (Nat.le_of_ble_eq_true rfl) (R_word_run hr1653)) ?_
  obtain ⟨t1654, h⟩ := gt_some h
  obtain ⟨g1655, h⟩ := gd_some h
  obtain ⟨m1656, hm1656, h⟩ := vb_some h
  have t1657 : mT m1656 (mC m729) = 32 := by rw [hm1656]; exact t1614
  have t1658 : mT m1656 a0 = 13 := by rw [hm1656]; exact t1615
  have t1659 : mT m1656 a741 = 35 := by rw [hm1656]; exact t1616
  have t1660 : mT m1656 a750 = 35 := by rw [hm1656]; exact t1617
  have t1661 : mT m1656 a760 = 35 := by rw [hm1656]; exact t1618
  have t1662 : mT m1656 a771 = 35 := by rw [hm1656]; exact t1619
  have t1663 : mT m1656 a783 = 35 := by rw [hm1656]; exact t1620
  have t1664 : mT m1656 a796 = 35 := by rw [hm1656]; exact t1621
  have t1665 : mT m1656 a810 = 35 := by rw [hm1656]; exact t1622
  have t1666 : mT m1656 a825 = 35 := by rw [hm1656]; exact t1623
  have t1667 : mT m1656 a841 = 35 := by rw [hm1656]; exact t1624
  have t1668 : mT m1656 a858 = 35 := by rw [hm1656]; exact t1625
  have t1669 : mT m1656 a876 = 35 := by rw [hm1656]; exact t1626
  have t1670 : mT m1656 a895 = 35 := by rw [hm1656]; exact t1627
  have t1671 : mT m1656 a915 = 35 := by rw [hm1656]; exact t1628
  have t1672 : mT m1656 a936 = 35 := by rw [hm1656]; exact t1629
  have t1673 : mT m1656 a958 = 35 := by rw [hm1656]; exact t1630
  have t1674 : mT m1656 a981 = 35 := by rw [hm1656]; exact t1631
  have t1675 : mT m1656 a1005 = 35 := by rw [hm1656]; exact t1632
  have t1676 : mT m1656 a1030 = 35 := by rw [hm1656]; exact t1633
  have t1677 : mT m1656 a1056 = 35 := by rw [hm1656]; exact t1634
  have t1678 : mT m1656 a1083 = 35 := by rw [hm1656]; exact t1635
  have t1679 : mT m1656 a1111 = 35 := by rw [hm1656]; exact t1636
  have t1680 : mT m1656 a1140 = 35 := by rw [hm1656]; exact t1637
  have t1681 : mT m1656 a1170 = 35 := by rw [hm1656]; exact t1638
  have t1682 : mT m1656 a1201 = 35 := by rw [hm1656]; exact t1639
  have t1683 : mT m1656 a1233 = 35 := by rw [hm1656]; exact t1640
  have t1684 : mT m1656 a1266 = 35 := by rw [hm1656]; exact t1641
  have t1685 : mT m1656 a1300 = 35 := by rw [hm1656]; exact t1642
  have t1686 : mT m1656 a1335 = 35 := by rw [hm1656]; exact t1643
  have t1687 : mT m1656 a1371 = 35 := by rw [hm1656]; exact t1644
  have t1688 : mT m1656 a1408 = 35 := by rw [hm1656]; exact t1645
  have t1689 : mT m1656 a1446 = 35 := by rw [hm1656]; exact t1646
  have t1690 : mT m1656 a1485 = 35 := by rw [hm1656]; exact t1647
  have t1691 : mT m1656 a1525 = 35 := by rw [hm1656]; exact t1648
  have t1692 : mT m1656 a1566 = 35 := by rw [hm1656]; exact t1649
  have t1693 : mT m1656 a1608 = 35 := by rw [hm1656]; exact t1650
  have t1694 : mT m1656 a1651 = 35 := by rw [hm1656]; exact t1654
  refine (p_last (pc := 1479) hm1656 (by decide +kernel : decode k_R_init.2.1 1479 = .ok (.lastore, 1)) t1654 rfl g1655) ?_
  refine (p_aload_n (pc := 1480) (k := 0) (by decide +kernel : decode k_R_init.2.1 1480 = .ok (.aload_n 0, 1)) rfl rfl) ?_
  obtain ⟨a1695, o1696, h⟩ := gs_some h
  refine (p_getr (pc := 1481) o1696 (by decide +kernel : decode k_R_init.2.1 1481 = .ok (.getfield 34, 3)) lg_12_34 t1658) ?_
  refine (r_bipush (pc := 1484) (by decide +kernel : decode k_R_init.2.1 1484 = .ok (.bipush (36), 2)) (by decide : _ = (36 : Int32))) ?_
  refine (r_bipush (pc := 1486) (by decide +kernel : decode k_R_init.2.1 1486 = .ok (.bipush (119), 2)) (by decide : _ = (119 : Int32))) ?_
  refine (r_bipush (pc := 1488) (by decide +kernel : decode k_R_init.2.1 1488 = .ok (.bipush (111), 2)) (by decide : _ = (111 : Int32))) ?_
  refine (r_bipush (pc := 1490) (by decide +kernel : decode k_R_init.2.1 1490 = .ok (.bipush (114), 2)) (by decide : _ = (114 : Int32))) ?_
  refine (r_bipush (pc := 1492) (by decide +kernel : decode k_R_init.2.1 1492 = .ok (.bipush (107), 2)) (by decide : _ = (107 : Int32))) ?_
  refine (r_bipush (pc := 1494) (by decide +kernel : decode k_R_init.2.1 1494 = .ok (.bipush (101), 2)) (by decide : _ = (101 : Int32))) ?_
  refine (r_bipush (pc := 1496) (by decide +kernel : decode k_R_init.2.1 1496 = .ok (.bipush (100), 2)) (by decide : _ = (100 : Int32))) ?_
  refine (r_iconst (pc := 1498) (by decide +kernel : decode k_R_init.2.1 1498 = .ok (.iconst 0, 1)) ic_0) ?_
  obtain ⟨r1697, hr1697, h⟩ := bp_some h
  refine (q_callS (pc := 1499) (As := [.int 119, .int 111, .int 114, .int 107, .int 101, .int 100, .int 0]) (st := [.int 36, .ref a1695]) (st2 := [.long r1697, .int 36, .ref a1695]) rfl rfl (by decide +kernel : decode k_R_init.2.1 1499 = .ok (.invokestatic 272, 3)) lc_12_272 mo_R_word ⟨Nat.le_of_ble_eq_true rfl, Nat.le_of_ble_eq_true rfl⟩ (Nat.le_of_ble_eq_true rfl) (Nat.le_of_ble_eq_true rfl) (R_word_run hr1697)) ?_
  obtain ⟨t1698, h⟩ := gt_some h
  obtain ⟨g1699, h⟩ := gd_some h
  obtain ⟨m1700, hm1700, h⟩ := vb_some h
  have t1701 : mT m1700 (mC m729) = 32 := by rw [hm1700]; exact t1657
  have t1702 : mT m1700 a0 = 13 := by rw [hm1700]; exact t1658
  have t1703 : mT m1700 a741 = 35 := by rw [hm1700]; exact t1659
  have t1704 : mT m1700 a750 = 35 := by rw [hm1700]; exact t1660
  have t1705 : mT m1700 a760 = 35 := by rw [hm1700]; exact t1661
  have t1706 : mT m1700 a771 = 35 := by rw [hm1700]; exact t1662
  have t1707 : mT m1700 a783 = 35 := by rw [hm1700]; exact t1663
  have t1708 : mT m1700 a796 = 35 := by rw [hm1700]; exact t1664
  have t1709 : mT m1700 a810 = 35 := by rw [hm1700]; exact t1665
  have t1710 : mT m1700 a825 = 35 := by rw [hm1700]; exact t1666
  have t1711 : mT m1700 a841 = 35 := by rw [hm1700]; exact t1667
  have t1712 : mT m1700 a858 = 35 := by rw [hm1700]; exact t1668
  have t1713 : mT m1700 a876 = 35 := by rw [hm1700]; exact t1669
  have t1714 : mT m1700 a895 = 35 := by rw [hm1700]; exact t1670
  have t1715 : mT m1700 a915 = 35 := by rw [hm1700]; exact t1671
  have t1716 : mT m1700 a936 = 35 := by rw [hm1700]; exact t1672
  have t1717 : mT m1700 a958 = 35 := by rw [hm1700]; exact t1673
  have t1718 : mT m1700 a981 = 35 := by rw [hm1700]; exact t1674
  have t1719 : mT m1700 a1005 = 35 := by rw [hm1700]; exact t1675
  have t1720 : mT m1700 a1030 = 35 := by rw [hm1700]; exact t1676
  have t1721 : mT m1700 a1056 = 35 := by rw [hm1700]; exact t1677
  have t1722 : mT m1700 a1083 = 35 := by rw [hm1700]; exact t1678
  have t1723 : mT m1700 a1111 = 35 := by rw [hm1700]; exact t1679
  have t1724 : mT m1700 a1140 = 35 := by rw [hm1700]; exact t1680
  have t1725 : mT m1700 a1170 = 35 := by rw [hm1700]; exact t1681
  have t1726 : mT m1700 a1201 = 35 := by rw [hm1700]; exact t1682
  have t1727 : mT m1700 a1233 = 35 := by rw [hm1700]; exact t1683
  have t1728 : mT m1700 a1266 = 35 := by rw [hm1700]; exact t1684
  have t1729 : mT m1700 a1300 = 35 := by rw [hm1700]; exact t1685
  have t1730 : mT m1700 a1335 = 35 := by rw [hm1700]; exact t1686
  have t1731 : mT m1700 a1371 = 35 := by rw [hm1700]; exact t1687
  have t1732 : mT m1700 a1408 = 35 := by rw [hm1700]; exact t1688
  have t1733 : mT m1700 a1446 = 35 := by rw [hm1700]; exact t1689
  have t1734 : mT m1700 a1485 = 35 := by rw [hm1700]; exact t1690
  have t1735 : mT m1700 a1525 = 35 := by rw [hm1700]; exact t1691
  have t1736 : mT m1700 a1566 = 35 := by rw [hm1700]; exact t1692
  have t1737 : mT m1700 a1608 = 35 := by rw [hm1700]; exact t1693
  have t1738 : mT m1700 a1651 = 35 := by rw [hm1700]; exact t1694
  have t1739 : mT m1700 a1695 = 35 := by rw [hm1700]; exact t1698
  refine (p_last (pc := 1502) hm1700 (by decide +kernel : decode k_R_init.2.1 1502 = .ok (.lastore, 1)) t1698 rfl g1699) ?_
  refine (p_aload_n (pc := 1503) (k := 0) (by decide +kernel : decode k_R_init.2.1 1503 = .ok (.aload_n 0, 1)) rfl rfl) ?_
  obtain ⟨a1740, o1741, h⟩ := gs_some h
  refine (p_getr (pc := 1504) o1741 (by decide +kernel : decode k_R_init.2.1 1504 = .ok (.getfield 34, 3)) lg_12_34 t1702) ?_
  refine (r_bipush (pc := 1507) (by decide +kernel : decode k_R_init.2.1 1507 = .ok (.bipush (37), 2)) (by decide : _ = (37 : Int32))) ?_
  refine (r_bipush (pc := 1509) (by decide +kernel : decode k_R_init.2.1 1509 = .ok (.bipush (119), 2)) (by decide : _ = (119 : Int32))) ?_
  refine (r_bipush (pc := 1511) (by decide +kernel : decode k_R_init.2.1 1511 = .ok (.bipush (101), 2)) (by decide : _ = (101 : Int32))) ?_
  refine (r_bipush (pc := 1513) (by decide +kernel : decode k_R_init.2.1 1513 = .ok (.bipush (101), 2)) (by decide : _ = (101 : Int32))) ?_
  refine (r_bipush (pc := 1515) (by decide +kernel : decode k_R_init.2.1 1515 = .ok (.bipush (107), 2)) (by decide : _ = (107 : Int32))) ?_
  refine (r_iconst (pc := 1517) (by decide +kernel : decode k_R_init.2.1 1517 = .ok (.iconst 0, 1)) ic_0) ?_
  refine (r_iconst (pc := 1518) (by decide +kernel : decode k_R_init.2.1 1518 = .ok (.iconst 0, 1)) ic_0) ?_
  refine (r_iconst (pc := 1519) (by decide +kernel : decode k_R_init.2.1 1519 = .ok (.iconst 0, 1)) ic_0) ?_
  obtain ⟨r1742, hr1742, h⟩ := bp_some h
  refine (q_callS (pc := 1520) (As := [.int 119, .int 101, .int 101, .int 107, .int 0, .int 0, .int 0]) (st := [.int 37, .ref a1740]) (st2 := [.long r1742, .int 37, .ref a1740]) rfl rfl (by decide +kernel : decode k_R_init.2.1 1520 = .ok (.invokestatic 272, 3)) lc_12_272 mo_R_word ⟨Nat.le_of_ble_eq_true rfl, Nat.le_of_ble_eq_true rfl⟩ (Nat.le_of_ble_eq_true rfl) (Nat.le_of_ble_eq_true rfl) (R_word_run hr1742)) ?_
  obtain ⟨t1743, h⟩ := gt_some h
  obtain ⟨g1744, h⟩ := gd_some h
  obtain ⟨m1745, hm1745, h⟩ := vb_some h
  have t1746 : mT m1745 (mC m729) = 32 := by rw [hm1745]; exact t1701
  have t1747 : mT m1745 a0 = 13 := by rw [hm1745]; exact t1702
  have t1748 : mT m1745 a741 = 35 := by rw [hm1745]; exact t1703
  have t1749 : mT m1745 a750 = 35 := by rw [hm1745]; exact t1704
  have t1750 : mT m1745 a760 = 35 := by rw [hm1745]; exact t1705
  have t1751 : mT m1745 a771 = 35 := by rw [hm1745]; exact t1706
  have t1752 : mT m1745 a783 = 35 := by rw [hm1745]; exact t1707
  have t1753 : mT m1745 a796 = 35 := by rw [hm1745]; exact t1708
  have t1754 : mT m1745 a810 = 35 := by rw [hm1745]; exact t1709
  have t1755 : mT m1745 a825 = 35 := by rw [hm1745]; exact t1710
  have t1756 : mT m1745 a841 = 35 := by rw [hm1745]; exact t1711
  have t1757 : mT m1745 a858 = 35 := by rw [hm1745]; exact t1712
  have t1758 : mT m1745 a876 = 35 := by rw [hm1745]; exact t1713
  have t1759 : mT m1745 a895 = 35 := by rw [hm1745]; exact t1714
  have t1760 : mT m1745 a915 = 35 := by rw [hm1745]; exact t1715
  have t1761 : mT m1745 a936 = 35 := by rw [hm1745]; exact t1716
  have t1762 : mT m1745 a958 = 35 := by rw [hm1745]; exact t1717
  have t1763 : mT m1745 a981 = 35 := by rw [hm1745]; exact t1718
  have t1764 : mT m1745 a1005 = 35 := by rw [hm1745]; exact t1719
  have t1765 : mT m1745 a1030 = 35 := by rw [hm1745]; exact t1720
  have t1766 : mT m1745 a1056 = 35 := by rw [hm1745]; exact t1721
  have t1767 : mT m1745 a1083 = 35 := by rw [hm1745]; exact t1722
  have t1768 : mT m1745 a1111 = 35 := by rw [hm1745]; exact t1723
  have t1769 : mT m1745 a1140 = 35 := by rw [hm1745]; exact t1724
  have t1770 : mT m1745 a1170 = 35 := by rw [hm1745]; exact t1725
  have t1771 : mT m1745 a1201 = 35 := by rw [hm1745]; exact t1726
  have t1772 : mT m1745 a1233 = 35 := by rw [hm1745]; exact t1727
  have t1773 : mT m1745 a1266 = 35 := by rw [hm1745]; exact t1728
  have t1774 : mT m1745 a1300 = 35 := by rw [hm1745]; exact t1729
  have t1775 : mT m1745 a1335 = 35 := by rw [hm1745]; exact t1730
  have t1776 : mT m1745 a1371 = 35 := by rw [hm1745]; exact t1731
  have t1777 : mT m1745 a1408 = 35 := by rw [hm1745]; exact t1732
  have t1778 : mT m1745 a1446 = 35 := by rw [hm1745]; exact t1733
  have t1779 : mT m1745 a1485 = 35 := by rw [hm1745]; exact t1734
  have t1780 : mT m1745 a1525 = 35 := by rw [hm1745]; exact t1735
  have t1781 : mT m1745 a1566 = 35 := by rw [hm1745]; exact t1736
  have t1782 : mT m1745 a1608 = 35 := by rw [hm1745]; exact t1737
  have t1783 : mT m1745 a1651 = 35 := by rw [hm1745]; exact t1738
  have t1784 : mT m1745 a1695 = 35 := by rw [hm1745]; exact t1739
  have t1785 : mT m1745 a1740 = 35 := by rw [hm1745]; exact t1743
  refine (p_last (pc := 1523) hm1745 (by decide +kernel : decode k_R_init.2.1 1523 = .ok (.lastore, 1)) t1743 rfl g1744) ?_
  refine (p_aload_n (pc := 1524) (k := 0) (by decide +kernel : decode k_R_init.2.1 1524 = .ok (.aload_n 0, 1)) rfl rfl) ?_
  obtain ⟨a1786, o1787, h⟩ := gs_some h
  refine (p_getr (pc := 1525) o1787 (by decide +kernel : decode k_R_init.2.1 1525 = .ok (.getfield 34, 3)) lg_12_34 t1747) ?_
  refine (r_bipush (pc := 1528) (by decide +kernel : decode k_R_init.2.1 1528 = .ok (.bipush (38), 2)) (by decide : _ = (38 : Int32))) ?_
  refine (r_bipush (pc := 1530) (by decide +kernel : decode k_R_init.2.1 1530 = .ok (.bipush (119), 2)) (by decide : _ = (119 : Int32))) ?_
  refine (r_bipush (pc := 1532) (by decide +kernel : decode k_R_init.2.1 1532 = .ok (.bipush (101), 2)) (by decide : _ = (101 : Int32))) ?_
  refine (r_bipush (pc := 1534) (by decide +kernel : decode k_R_init.2.1 1534 = .ok (.bipush (116), 2)) (by decide : _ = (116 : Int32))) ?_
  refine (r_iconst (pc := 1536) (by decide +kernel : decode k_R_init.2.1 1536 = .ok (.iconst 0, 1)) ic_0) ?_
  refine (r_iconst (pc := 1537) (by decide +kernel : decode k_R_init.2.1 1537 = .ok (.iconst 0, 1)) ic_0) ?_
  refine (r_iconst (pc := 1538) (by decide +kernel : decode k_R_init.2.1 1538 = .ok (.iconst 0, 1)) ic_0) ?_
  refine (r_iconst (pc := 1539) (by decide +kernel : decode k_R_init.2.1 1539 = .ok (.iconst 0, 1)) ic_0) ?_
  obtain ⟨r1788, hr1788, h⟩ := bp_some h
  refine (q_callS (pc := 1540) (As := [.int 119, .int 101, .int 116, .int 0, .int 0, .int 0, .int 0]) (st := [.int 38, .ref a1786]) (st2 := [.long r1788, .int 38, .ref a1786]) rfl rfl (by decide +kernel : decode k_R_init.2.1 1540 = .ok (.invokestatic 272, 3)) lc_12_272 mo_R_word ⟨Nat.le_of_ble_eq_true rfl, Nat.le_of_ble_eq_true rfl⟩ (Nat.le_of_ble_eq_true rfl) (Nat.le_of_ble_eq_true rfl) (R_word_run hr1788)) ?_
  obtain ⟨t1789, h⟩ := gt_some h
  obtain ⟨g1790, h⟩ := gd_some h
  obtain ⟨m1791, hm1791, h⟩ := vb_some h
  have t1792 : mT m1791 (mC m729) = 32 := by rw [hm1791]; exact t1746
  have t1793 : mT m1791 a0 = 13 := by rw [hm1791]; exact t1747
  have t1794 : mT m1791 a741 = 35 := by rw [hm1791]; exact t1748
  have t1795 : mT m1791 a750 = 35 := by rw [hm1791]; exact t1749
  have t1796 : mT m1791 a760 = 35 := by rw [hm1791]; exact t1750
  have t1797 : mT m1791 a771 = 35 := by rw [hm1791]; exact t1751
  have t1798 : mT m1791 a783 = 35 := by rw [hm1791]; exact t1752
  have t1799 : mT m1791 a796 = 35 := by rw [hm1791]; exact t1753
  have t1800 : mT m1791 a810 = 35 := by rw [hm1791]; exact t1754
  have t1801 : mT m1791 a825 = 35 := by rw [hm1791]; exact t1755
  have t1802 : mT m1791 a841 = 35 := by rw [hm1791]; exact t1756
  have t1803 : mT m1791 a858 = 35 := by rw [hm1791]; exact t1757
  have t1804 : mT m1791 a876 = 35 := by rw [hm1791]; exact t1758
  have t1805 : mT m1791 a895 = 35 := by rw [hm1791]; exact t1759
  have t1806 : mT m1791 a915 = 35 := by rw [hm1791]; exact t1760
  have t1807 : mT m1791 a936 = 35 := by rw [hm1791]; exact t1761
  have t1808 : mT m1791 a958 = 35 := by rw [hm1791]; exact t1762
  have t1809 : mT m1791 a981 = 35 := by rw [hm1791]; exact t1763
  have t1810 : mT m1791 a1005 = 35 := by rw [hm1791]; exact t1764
  have t1811 : mT m1791 a1030 = 35 := by rw [hm1791]; exact t1765
  have t1812 : mT m1791 a1056 = 35 := by rw [hm1791]; exact t1766
  have t1813 : mT m1791 a1083 = 35 := by rw [hm1791]; exact t1767
  have t1814 : mT m1791 a1111 = 35 := by rw [hm1791]; exact t1768
  have t1815 : mT m1791 a1140 = 35 := by rw [hm1791]; exact t1769
  have t1816 : mT m1791 a1170 = 35 := by rw [hm1791]; exact t1770
  have t1817 : mT m1791 a1201 = 35 := by rw [hm1791]; exact t1771
  have t1818 : mT m1791 a1233 = 35 := by rw [hm1791]; exact t1772
  have t1819 : mT m1791 a1266 = 35 := by rw [hm1791]; exact t1773
  have t1820 : mT m1791 a1300 = 35 := by rw [hm1791]; exact t1774
  have t1821 : mT m1791 a1335 = 35 := by rw [hm1791]; exact t1775
  have t1822 : mT m1791 a1371 = 35 := by rw [hm1791]; exact t1776
  have t1823 : mT m1791 a1408 = 35 := by rw [hm1791]; exact t1777
  have t1824 : mT m1791 a1446 = 35 := by rw [hm1791]; exact t1778
  have t1825 : mT m1791 a1485 = 35 := by rw [hm1791]; exact t1779
  have t1826 : mT m1791 a1525 = 35 := by rw [hm1791]; exact t1780
  have t1827 : mT m1791 a1566 = 35 := by rw [hm1791]; exact t1781
  have t1828 : mT m1791 a1608 = 35 := by rw [hm1791]; exact t1782
  have t1829 : mT m1791 a1651 = 35 := by rw [hm1791]; exact t1783
  have t1830 : mT m1791 a1695 = 35 := by rw [hm1791]; exact t1784
  have t1831 : mT m1791 a1740 = 35 := by rw [hm1791]; exact t1785
  have t1832 : mT m1791 a1786 = 35 := by rw [hm1791]; exact t1789
  refine (p_last (pc := 1543) hm1791 (by decide +kernel : decode k_R_init.2.1 1543 = .ok (.lastore, 1)) t1789 rfl g1790) ?_
  refine (p_aload_n (pc := 1544) (k := 0) (by decide +kernel : decode k_R_init.2.1 1544 = .ok (.aload_n 0, 1)) rfl rfl) ?_
  obtain ⟨a1833, o1834, h⟩ := gs_some h
  refine (p_getr (pc := 1545) o1834 (by decide +kernel : decode k_R_init.2.1 1545 = .ok (.getfield 34, 3)) lg_12_34 t1793) ?_
  refine (r_bipush (pc := 1548) (by decide +kernel : decode k_R_init.2.1 1548 = .ok (.bipush (39), 2)) (by decide : _ = (39 : Int32))) ?_
  refine (r_bipush (pc := 1550) (by decide +kernel : decode k_R_init.2.1 1550 = .ok (.bipush (114), 2)) (by decide : _ = (114 : Int32))) ?_
  refine (r_bipush (pc := 1552) (by decide +kernel : decode k_R_init.2.1 1552 = .ok (.bipush (97), 2)) (by decide : _ = (97 : Int32))) ?_
  refine (r_bipush (pc := 1554) (by decide +kernel : decode k_R_init.2.1 1554 = .ok (.bipush (116), 2)) (by decide : _ = (116 : Int32))) ?_
  refine (r_bipush (pc := 1556) (by decide +kernel : decode k_R_init.2.1 1556 = .ok (.bipush (101), 2)) (by decide : _ = (101 : Int32))) ?_
  refine (r_iconst (pc := 1558) (by decide +kernel : decode k_R_init.2.1 1558 = .ok (.iconst 0, 1)) ic_0) ?_
  refine (r_iconst (pc := 1559) (by decide +kernel : decode k_R_init.2.1 1559 = .ok (.iconst 0, 1)) ic_0) ?_
  refine (r_iconst (pc := 1560) (by decide +kernel : decode k_R_init.2.1 1560 = .ok (.iconst 0, 1)) ic_0) ?_
  obtain ⟨r1835, hr1835, h⟩ := bp_some h
  refine (q_callS (pc := 1561) (As := [.int 114, .int 97, .int 116, .int 101, .int 0, .int 0, .int 0]) (st := [.int 39, .ref a1833]) (st2 := [.long r1835, .int 39, .ref a1833]) rfl rfl (by decide +kernel : decode k_R_init.2.1 1561 = .ok (.invokestatic 272, 3)) lc_12_272 mo_R_word ⟨Nat.le_of_ble_eq_true rfl, Nat.le_of_ble_eq_true rfl⟩ (Nat.le_of_ble_eq_true rfl) (Nat.le_of_ble_eq_true rfl) (R_word_run hr1835)) ?_
  obtain ⟨t1836, h⟩ := gt_some h
  obtain ⟨g1837, h⟩ := gd_some h
  obtain ⟨m1838, hm1838, h⟩ := vb_some h
  have t1839 : mT m1838 (mC m729) = 32 := by rw [hm1838]; exact t1792
  have t1840 : mT m1838 a0 = 13 := by rw [hm1838]; exact t1793
  have t1841 : mT m1838 a741 = 35 := by rw [hm1838]; exact t1794
  have t1842 : mT m1838 a750 = 35 := by rw [hm1838]; exact t1795
  have t1843 : mT m1838 a760 = 35 := by rw [hm1838]; exact t1796
  have t1844 : mT m1838 a771 = 35 := by rw [hm1838]; exact t1797
  have t1845 : mT m1838 a783 = 35 := by rw [hm1838]; exact t1798
  have t1846 : mT m1838 a796 = 35 := by rw [hm1838]; exact t1799
  have t1847 : mT m1838 a810 = 35 := by rw [hm1838]; exact t1800
  have t1848 : mT m1838 a825 = 35 := by rw [hm1838]; exact t1801
  have t1849 : mT m1838 a841 = 35 := by rw [hm1838]; exact t1802
  have t1850 : mT m1838 a858 = 35 := by rw [hm1838]; exact t1803
  have t1851 : mT m1838 a876 = 35 := by rw [hm1838]; exact t1804
  have t1852 : mT m1838 a895 = 35 := by rw [hm1838]; exact t1805
  have t1853 : mT m1838 a915 = 35 := by rw [hm1838]; exact t1806
  have t1854 : mT m1838 a936 = 35 := by rw [hm1838]; exact t1807
  have t1855 : mT m1838 a958 = 35 := by rw [hm1838]; exact t1808
  have t1856 : mT m1838 a981 = 35 := by rw [hm1838]; exact t1809
  have t1857 : mT m1838 a1005 = 35 := by rw [hm1838]; exact t1810
  have t1858 : mT m1838 a1030 = 35 := by rw [hm1838]; exact t1811
  have t1859 : mT m1838 a1056 = 35 := by rw [hm1838]; exact t1812
  have t1860 : mT m1838 a1083 = 35 := by rw [hm1838]; exact t1813
  have t1861 : mT m1838 a1111 = 35 := by rw [hm1838]; exact t1814
  have t1862 : mT m1838 a1140 = 35 := by rw [hm1838]; exact t1815
  have t1863 : mT m1838 a1170 = 35 := by rw [hm1838]; exact t1816
  have t1864 : mT m1838 a1201 = 35 := by rw [hm1838]; exact t1817
  have t1865 : mT m1838 a1233 = 35 := by rw [hm1838]; exact t1818
  have t1866 : mT m1838 a1266 = 35 := by rw [hm1838]; exact t1819
  have t1867 : mT m1838 a1300 = 35 := by rw [hm1838]; exact t1820
  have t1868 : mT m1838 a1335 = 35 := by rw [hm1838]; exact t1821
  have t1869 : mT m1838 a1371 = 35 := by rw [hm1838]; exact t1822
  have t1870 : mT m1838 a1408 = 35 := by rw [hm1838]; exact t1823
  have t1871 : mT m1838 a1446 = 35 := by rw [hm1838]; exact t1824
  have t1872 : mT m1838 a1485 = 35 := by rw [hm1838]; exact t1825
  have t1873 : mT m1838 a1525 = 35 := by rw [hm1838]; exact t1826
  have t1874 : mT m1838 a1566 = 35 := by rw [hm1838]; exact t1827
  have t1875 : mT m1838 a1608 = 35 := by rw [hm1838]; exact t1828
  have t1876 : mT m1838 a1651 = 35 := by rw [hm1838]; exact t1829
  have t1877 : mT m1838 a1695 = 35 := by rw [hm1838]; exact t1830
  have t1878 : mT m1838 a1740 = 35 := by rw [hm1838]; exact t1831
  have t1879 : mT m1838 a1786 = 35 := by rw [hm1838]; exact t1832
  have t1880 : mT m1838 a1833 = 35 := by rw [hm1838]; exact t1836
  refine (p_last (pc := 1564) hm1838 (by decide +kernel : decode k_R_init.2.1 1564 = .ok (.lastore, 1)) t1836 rfl g1837) ?_
  refine (r_iconst (pc := 1565) (by decide +kernel : decode k_R_init.2.1 1565 = .ok (.iconst 0, 1)) ic_0) ?_
  refine (e_istore_n (pc := 1566) rfl (by decide +kernel : decode k_R_init.2.1 1566 = .ok (.istore_n 1, 1)) rfl (by decide) rfl (ls2 := [(1, .int 0), (0, .ref a0)]) (i := 1)) ?_
  exact (r_sub [1, 0] rfl (R_init_1567_run t1840 h))
