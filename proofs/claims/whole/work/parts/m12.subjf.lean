/-! written by gen/emit.py -/
set_option maxRecDepth 100000 in
set_option maxHeartbeats 4000000 in
theorem P_Reckoning_chosenClass_15_run {n : Nat} {x1 : Option Nat} {x2 : Option Nat} {x3 : Option Nat} {x4 : Option Nat} {x5 : Int32} {m m' : Mem} {r : Int32} (hL : PL m) (h : P_Reckoning_chosenClass_15 n x1 x2 x3 x4 x5 m = some (r, m')) : Run k_P_Reckoning_chosenClass 15 [(0, .ref 28), (1, va_rf x1), (2, va_rf x2), (3, va_rf x3), (4, va_rf x4), (5, .int x5)] [] m (some (.int r)) m' ∧ PL m' := by
  induction n generalizing x1 x2 x3 x4 x5 m r m' with
  | zero => exact absurd h (by simp [P_Reckoning_chosenClass_15])
  | succ n ih =>
    rw [P_Reckoning_chosenClass_15.eq_2] at h
    refine ai (r_iload (pc := 15) (k := 5) (by decide +kernel : decode k_P_Reckoning_chosenClass.2.1 15 = .ok (.iload 5, 2)) rfl) ?_
    refine ai (r_bipush (pc := 17) (by decide +kernel : decode k_P_Reckoning_chosenClass.2.1 17 = .ok (.bipush (48), 2)) (by decide : _ = (48 : Int32))) ?_
    rcases ite_some h with ⟨c1, h⟩ | ⟨c1, h⟩
    · refine ai (r_icmp_ge_t (pc := 19) (tgt := 55) (by decide +kernel : decode k_P_Reckoning_chosenClass.2.1 19 = .ok (.if_icmp .ge (36), 3)) (by decide) c1) ?_
      exact (ai (r_sub [0, 1, 4] rfl) (P_Reckoning_chosenClass_55_run hL h))
    · refine ai (r_icmp_ge_f (pc := 19) 55 (by decide +kernel : decode k_P_Reckoning_chosenClass.2.1 19 = .ok (.if_icmp .ge (36), 3)) (by decide) c1) ?_
      obtain ⟨a2, rfl, hha2⟩ := gs_some h
      have h := hha2
      refine ai (p_aload_n (pc := 22) (k := 2) (by decide +kernel : decode k_P_Reckoning_chosenClass.2.1 22 = .ok (.aload_n 2, 1)) rfl rfl) ?_
      refine ai (r_iload (pc := 23) (k := 5) (by decide +kernel : decode k_P_Reckoning_chosenClass.2.1 23 = .ok (.iload 5, 2)) rfl) ?_
      obtain ⟨t3, h⟩ := gt_some h
      obtain ⟨g4, h⟩ := gd_some h
      refine ai (p_aald (pc := 25) (j := 1) (by decide) (by decide +kernel : decode k_P_Reckoning_chosenClass.2.1 25 = .ok (.aaload, 1)) t3 rfl g4) ?_
      refine ai (r_aload_n (pc := 26) (k := 1) (by decide +kernel : decode k_P_Reckoning_chosenClass.2.1 26 = .ok (.aload_n 1, 1)) rfl rfl) ?_
      rcases ite_some h with ⟨c5, h⟩ | ⟨c5, h⟩
      · refine ai (r_acmp_ne_f (pc := 27) (rx := aR m a2 (ix x5)) (ry := x1) 49 (by decide +kernel : decode k_P_Reckoning_chosenClass.2.1 27 = .ok (.if_acmp .ne (22), 3)) (by decide) c5) ?_
        obtain ⟨a6, rfl, hha6⟩ := gs_some h
        have h := hha6
        refine ai (p_aload_n (pc := 30) (k := 3) (by decide +kernel : decode k_P_Reckoning_chosenClass.2.1 30 = .ok (.aload_n 3, 1)) rfl rfl) ?_
        refine ai (r_iload (pc := 31) (k := 5) (by decide +kernel : decode k_P_Reckoning_chosenClass.2.1 31 = .ok (.iload 5, 2)) rfl) ?_
        obtain ⟨t7, h⟩ := gt_some h
        obtain ⟨g8, h⟩ := gd_some h
        refine ai (p_iald (pc := 33) (by decide +kernel : decode k_P_Reckoning_chosenClass.2.1 33 = .ok (.iaload, 1)) t7 rfl g8) ?_
        refine ai (r_iconst (pc := 34) (by decide +kernel : decode k_P_Reckoning_chosenClass.2.1 34 = .ok (.iconst (-1), 1)) ic_m1) ?_
        rcases ite_some h with ⟨c9, h⟩ | ⟨c9, h⟩
        · refine ai (r_icmp_eq_t (pc := 35) (tgt := 49) (by decide +kernel : decode k_P_Reckoning_chosenClass.2.1 35 = .ok (.if_icmp .eq (14), 3)) (by decide) c9) ?_
          exact (P_Reckoning_chosenClass_49_run (fun _ _ _ _ _ _ _ _ q1 q3 => ih q1 q3) hL h)
        · refine ai (r_icmp_eq_f (pc := 35) 49 (by decide +kernel : decode k_P_Reckoning_chosenClass.2.1 35 = .ok (.if_icmp .eq (14), 3)) (by decide) c9) ?_
          obtain ⟨a10, rfl, hha10⟩ := gs_some h
          have h := hha10
          refine ai (p_aload (pc := 38) (k := 4) (by decide +kernel : decode k_P_Reckoning_chosenClass.2.1 38 = .ok (.aload 4, 2)) rfl) ?_
          refine ai (p_aload_n (pc := 40) (k := 3) (by decide +kernel : decode k_P_Reckoning_chosenClass.2.1 40 = .ok (.aload_n 3, 1)) rfl rfl) ?_
          refine ai (r_iload (pc := 41) (k := 5) (by decide +kernel : decode k_P_Reckoning_chosenClass.2.1 41 = .ok (.iload 5, 2)) rfl) ?_
          obtain ⟨g11, h⟩ := gd_some h
          refine ai (p_iald (pc := 43) (by decide +kernel : decode k_P_Reckoning_chosenClass.2.1 43 = .ok (.iaload, 1)) t7 rfl g11) ?_
          refine ai (r_dup2 (pc := 44) (by decide +kernel : decode k_P_Reckoning_chosenClass.2.1 44 = .ok (.dup2, 1)) rfl rfl) ?_
          obtain ⟨t12, h⟩ := gt_some h
          obtain ⟨g13, h⟩ := gd_some h
          refine ai (p_iald (pc := 45) (by decide +kernel : decode k_P_Reckoning_chosenClass.2.1 45 = .ok (.iaload, 1)) t12 rfl g13) ?_
          refine ai (r_iconst (pc := 46) (by decide +kernel : decode k_P_Reckoning_chosenClass.2.1 46 = .ok (.iconst 1, 1)) ic_1) ?_
          refine ai (r_iadd (pc := 47) (by decide +kernel : decode k_P_Reckoning_chosenClass.2.1 47 = .ok (.iadd, 1))) ?_
          obtain ⟨g14, h⟩ := gd_some h
          obtain ⟨m15, hm15, h⟩ := vb_some h
          have hL : PL m15 := by rw [hm15]; exact hL
          have t16 : mT m15 a2 = 37 := by rw [hm15]; exact t3
          have t17 : mT m15 a6 = 32 := by rw [hm15]; exact t7
          have t18 : mT m15 a10 = 32 := by rw [hm15]; exact t12
          refine ai (p_iast (pc := 48) hm15 (by decide +kernel : decode k_P_Reckoning_chosenClass.2.1 48 = .ok (.iastore, 1)) t12 rfl g14) ?_
          exact (P_Reckoning_chosenClass_49_run (fun _ _ _ _ _ _ _ _ q1 q3 => ih q1 q3) hL h)
      · refine ai (r_acmp_ne_t (pc := 27) (tgt := 49) (rx := aR m a2 (ix x5)) (ry := x1) (by decide +kernel : decode k_P_Reckoning_chosenClass.2.1 27 = .ok (.if_acmp .ne (22), 3)) (by decide) c5) ?_
        exact (P_Reckoning_chosenClass_49_run (fun _ _ _ _ _ _ _ _ q1 q3 => ih q1 q3) hL h)
set_option maxRecDepth 100000 in
set_option maxHeartbeats 4000000 in
theorem P_Reckoning_chosenClass_run {x1 : Option Nat} {x2 : Option Nat} {x3 : Option Nat} {m m' : Mem} {r : Int32} (hL : PL m) (h : P_Reckoning_chosenClass x1 x2 x3 m = some (r, m')) : Run k_P_Reckoning_chosenClass 0 [(0, .ref 28), (1, va_rf x1), (2, va_rf x2), (3, va_rf x3)] [] m (some (.int r)) m' ∧ PL m' := by
  unfold P_Reckoning_chosenClass at h
  obtain ⟨a1, rfl, hha1⟩ := gs_some h
  have h := hha1
  refine ai (p_aload_n (pc := 0) (k := 1) (by decide +kernel : decode k_P_Reckoning_chosenClass.2.1 0 = .ok (.aload_n 1, 1)) rfl rfl) ?_
  obtain ⟨t2, h⟩ := gt_some h
  refine ai (p_getR (pc := 1) (by decide +kernel : decode k_P_Reckoning_chosenClass.2.1 1 = .ok (.getfield 256, 3)) lg_8_256 t2) ?_
  refine ai (r_astore (pc := 4) (by decide +kernel : decode k_P_Reckoning_chosenClass.2.1 4 = .ok (.astore 4, 2)) (by decide) (by simp [f1, vrc, vrs, cti, ctr, ctl, ctn, cta]) (ls2 := [(4, va_rf (mR m 1291 a1)), (0, .ref 28), (1, .ref a1), (2, va_rf x2), (3, va_rf x3)]) (i := 4)) ?_
  refine ai (r_aload (pc := 6) (k := 0) (by decide +kernel : decode k_P_Reckoning_chosenClass.2.1 6 = .ok (.aload 4, 2)) rfl) ?_
  refine ai (r_iconst (pc := 8) (by decide +kernel : decode k_P_Reckoning_chosenClass.2.1 8 = .ok (.iconst 0, 1)) ic_0) ?_
  obtain ⟨r3, m4, hr3, h⟩ := bn_some h
  have q5 := J_fill_run hr3
  have hL := PL.kp hL q5.2
  refine ai (q_callS (pc := 9) (As := [va_rf (mR m 1291 a1), .int 0]) (st := []) (st2 := []) (by simp [lv_args, vrc, vrs, cti, ctr, ctl, ctn, cta]) rfl (by decide +kernel : decode k_P_Reckoning_chosenClass.2.1 9 = .ok (.invokestatic 259, 3)) lc_8_259 mo_J_fill ⟨Nat.le_of_ble_eq_true rfl, Nat.le_of_ble_eq_true rfl⟩ (by simp [lg_sl, vrc, vrs, cti, ctr, ctl, ctn, cta, k_J_fill]) (Nat.le_of_ble_eq_true rfl) q5.1) ?_
  have t6 : mT m4 a1 = 11 := by rw [q5.2.1]; exact t2
  refine ai (r_iconst (pc := 12) (by decide +kernel : decode k_P_Reckoning_chosenClass.2.1 12 = .ok (.iconst 0, 1)) ic_0) ?_
  refine ai (e_istore (pc := 13) rfl (by decide +kernel : decode k_P_Reckoning_chosenClass.2.1 13 = .ok (.istore 5, 2)) (by decide) (by simp [f1, vrc, vrs, cti, ctr, ctl, ctn, cta]) (ls2 := [(5, .int 0), (4, va_rf (mR m 1291 a1)), (0, .ref 28), (1, .ref a1), (2, va_rf x2), (3, va_rf x3)]) (i := 5)) ?_
  exact (ai (r_sub [2, 3, 4, 5, 1, 0] rfl) (P_Reckoning_chosenClass_15_run hL h))
set_option maxRecDepth 100000 in
set_option maxHeartbeats 4000000 in
theorem P_Reckoning_findClasses_32_run {k2 : Option Nat → Option Nat → Int32 → Mem → Option (Unit × Mem)} {x1 : Option Nat} {x2 : Option Nat} {x3 : Int32} {s0 : Int32} {s1 : Int32} {s2 : Option Nat} {m m' : Mem} {r : Unit} (hk2 : ∀ (x1 : Option Nat) (x2 : Option Nat) (x3 : Int32) (m : Mem) (r : Unit) (m' : Mem), PL m → k2 x1 x2 x3 m = some (r, m') → Run k_P_Reckoning_findClasses 2 [(0, .ref 28), (1, va_rf x1), (2, va_rf x2), (3, .int x3)] [] m none m' ∧ PL m') (hL : PL m) (h : P_Reckoning_findClasses_32 k2 x1 x2 x3 s0 s1 s2 m = some (r, m')) : Run k_P_Reckoning_findClasses 32 [(0, .ref 28), (1, va_rf x1), (2, va_rf x2), (3, .int x3)] [.int s0, .int s1, va_rf s2] m none m' ∧ PL m' := by
  unfold P_Reckoning_findClasses_32 at h
  obtain ⟨a1, rfl, hha1⟩ := gs_some h
  have h := hha1
  obtain ⟨t2, h⟩ := gt_some h
  obtain ⟨g3, h⟩ := gd_some h
  obtain ⟨m4, hm4, h⟩ := vb_some h
  have hL : PL m4 := by rw [hm4]; exact hL
  have t5 : mT m4 a1 = 32 := by rw [hm4]; exact t2
  refine ai (p_iast (pc := 32) hm4 (by decide +kernel : decode k_P_Reckoning_findClasses.2.1 32 = .ok (.iastore, 1)) t2 rfl g3) ?_
  obtain ⟨v6, hv6, h⟩ := vb_some h
  refine ai (e_iinc (pc := 33) (k := 3) hv6 ic_1 (by decide +kernel : decode k_P_Reckoning_findClasses.2.1 33 = .ok (.iinc 3 (1), 3)) rfl (by decide) (by simp [f1, vrc, vrs, cti, ctr, ctl, ctn, cta]) (ls2 := [(3, .int v6), (0, .ref 28), (1, va_rf x1), (2, va_rf x2)]) (i := 3)) ?_
  refine ai (r_goto (pc := 36) (tgt := 2) (by decide +kernel : decode k_P_Reckoning_findClasses.2.1 36 = .ok (.goto (-34), 3)) (by decide)) ?_
  exact (ai (r_sub [1, 2, 3, 0] rfl) (hk2 x1 x2 v6 m4 _ _ hL h))
set_option maxRecDepth 100000 in
set_option maxHeartbeats 4000000 in
theorem P_Reckoning_findClasses_124_run {k41 : Option Nat → Option Nat → Int32 → Mem → Option (Unit × Mem)} {k94 : Option Nat → Option Nat → Int32 → Option Nat → Int32 → Int32 → Mem → Option (Unit × Mem)} {x1 : Option Nat} {x2 : Option Nat} {x3 : Int32} {x4 : Option Nat} {x5 : Int32} {x6 : Int32} {m m' : Mem} {r : Unit} (hk41 : ∀ (x1 : Option Nat) (x2 : Option Nat) (x3 : Int32) (m : Mem) (r : Unit) (m' : Mem), PL m → k41 x1 x2 x3 m = some (r, m') → Run k_P_Reckoning_findClasses 41 [(0, .ref 28), (1, va_rf x1), (2, va_rf x2), (3, .int x3)] [] m none m' ∧ PL m') (hk94 : ∀ (x1 : Option Nat) (x2 : Option Nat) (x3 : Int32) (x4 : Option Nat) (x5 : Int32) (x6 : Int32) (m : Mem) (r : Unit) (m' : Mem), PL m → k94 x1 x2 x3 x4 x5 x6 m = some (r, m') → Run k_P_Reckoning_findClasses 94 [(0, .ref 28), (1, va_rf x1), (2, va_rf x2), (3, .int x3), (4, va_rf x4), (5, .int x5), (6, .int x6)] [] m none m' ∧ PL m') (hL : PL m) (h : P_Reckoning_findClasses_124 k41 k94 x1 x2 x3 x4 x5 x6 m = some (r, m')) : Run k_P_Reckoning_findClasses 124 [(0, .ref 28), (1, va_rf x1), (2, va_rf x2), (3, .int x3), (4, va_rf x4), (5, .int x5), (6, .int x6)] [] m none m' ∧ PL m' := by
  unfold P_Reckoning_findClasses_124 at h
  obtain ⟨v1, hv1, h⟩ := vb_some h
  refine ai (e_iinc (pc := 124) (k := 6) hv1 ic_1 (by decide +kernel : decode k_P_Reckoning_findClasses.2.1 124 = .ok (.iinc 6 (1), 3)) rfl (by decide) rfl (ls2 := [(6, .int v1), (0, .ref 28), (1, va_rf x1), (2, va_rf x2), (3, .int x3), (4, va_rf x4), (5, .int x5)]) (i := 6)) ?_
  refine ai (r_goto (pc := 127) (tgt := 94) (by decide +kernel : decode k_P_Reckoning_findClasses.2.1 127 = .ok (.goto (-33), 3)) (by decide)) ?_
  exact (ai (r_sub [1, 2, 3, 4, 5, 6, 0] rfl) (hk94 x1 x2 x3 x4 x5 v1 m _ _ hL h))
set_option maxRecDepth 100000 in
set_option maxHeartbeats 4000000 in
theorem P_Reckoning_findClasses_130_run {k41 : Option Nat → Option Nat → Int32 → Mem → Option (Unit × Mem)} {x1 : Option Nat} {x2 : Option Nat} {x3 : Int32} {m m' : Mem} {r : Unit} (hk41 : ∀ (x1 : Option Nat) (x2 : Option Nat) (x3 : Int32) (m : Mem) (r : Unit) (m' : Mem), PL m → k41 x1 x2 x3 m = some (r, m') → Run k_P_Reckoning_findClasses 41 [(0, .ref 28), (1, va_rf x1), (2, va_rf x2), (3, .int x3)] [] m none m' ∧ PL m') (hL : PL m) (h : P_Reckoning_findClasses_130 k41 x1 x2 x3 m = some (r, m')) : Run k_P_Reckoning_findClasses 130 [(0, .ref 28), (1, va_rf x1), (2, va_rf x2), (3, .int x3)] [] m none m' ∧ PL m' := by
  unfold P_Reckoning_findClasses_130 at h
  obtain ⟨v1, hv1, h⟩ := vb_some h
  refine ai (e_iinc (pc := 130) (k := 3) hv1 ic_1 (by decide +kernel : decode k_P_Reckoning_findClasses.2.1 130 = .ok (.iinc 3 (1), 3)) rfl (by decide) (by simp [f1, vrc, vrs, cti, ctr, ctl, ctn, cta]) (ls2 := [(3, .int v1), (0, .ref 28), (1, va_rf x1), (2, va_rf x2)]) (i := 3)) ?_
  refine ai (r_goto (pc := 133) (tgt := 41) (by decide +kernel : decode k_P_Reckoning_findClasses.2.1 133 = .ok (.goto (-92), 3)) (by decide)) ?_
  exact (ai (r_sub [1, 2, 3, 0] rfl) (hk41 x1 x2 v1 m _ _ hL h))
set_option maxRecDepth 100000 in
set_option maxHeartbeats 4000000 in
theorem P_Reckoning_findClasses_94_run {k41 : Option Nat → Option Nat → Int32 → Mem → Option (Unit × Mem)} {n : Nat} {x1 : Option Nat} {x2 : Option Nat} {x3 : Int32} {x4 : Option Nat} {x5 : Int32} {x6 : Int32} {m m' : Mem} {r : Unit} (hk41 : ∀ (x1 : Option Nat) (x2 : Option Nat) (x3 : Int32) (m : Mem) (r : Unit) (m' : Mem), PL m → k41 x1 x2 x3 m = some (r, m') → Run k_P_Reckoning_findClasses 41 [(0, .ref 28), (1, va_rf x1), (2, va_rf x2), (3, .int x3)] [] m none m' ∧ PL m') (hL : PL m) (h : P_Reckoning_findClasses_94 k41 n x1 x2 x3 x4 x5 x6 m = some (r, m')) : Run k_P_Reckoning_findClasses 94 [(0, .ref 28), (1, va_rf x1), (2, va_rf x2), (3, .int x3), (4, va_rf x4), (5, .int x5), (6, .int x6)] [] m none m' ∧ PL m' := by
  induction n generalizing x1 x2 x3 x4 x5 x6 m r m' with
  | zero => exact absurd h (by simp [P_Reckoning_findClasses_94])
  | succ n ih =>
    rw [P_Reckoning_findClasses_94.eq_2] at h
    refine ai (r_iload (pc := 94) (k := 6) (by decide +kernel : decode k_P_Reckoning_findClasses.2.1 94 = .ok (.iload 6, 2)) rfl) ?_
    refine ai (r_bipush (pc := 96) (by decide +kernel : decode k_P_Reckoning_findClasses.2.1 96 = .ok (.bipush (48), 2)) (by decide : _ = (48 : Int32))) ?_
    rcases ite_some h with ⟨c1, h⟩ | ⟨c1, h⟩
    · refine ai (r_icmp_ge_t (pc := 98) (tgt := 130) (by decide +kernel : decode k_P_Reckoning_findClasses.2.1 98 = .ok (.if_icmp .ge (32), 3)) (by decide) c1) ?_
      exact (ai (r_sub [0, 1, 2, 3] rfl) (P_Reckoning_findClasses_130_run hk41 hL h))
    · refine ai (r_icmp_ge_f (pc := 98) 130 (by decide +kernel : decode k_P_Reckoning_findClasses.2.1 98 = .ok (.if_icmp .ge (32), 3)) (by decide) c1) ?_
      obtain ⟨a2, rfl, hha2⟩ := gs_some h
      have h := hha2
      refine ai (p_aload_n (pc := 101) (k := 1) (by decide +kernel : decode k_P_Reckoning_findClasses.2.1 101 = .ok (.aload_n 1, 1)) rfl rfl) ?_
      refine ai (r_iload (pc := 102) (k := 6) (by decide +kernel : decode k_P_Reckoning_findClasses.2.1 102 = .ok (.iload 6, 2)) rfl) ?_
      obtain ⟨t3, h⟩ := gt_some h
      obtain ⟨g4, h⟩ := gd_some h
      refine ai (p_aald (pc := 104) (j := 1) (by decide) (by decide +kernel : decode k_P_Reckoning_findClasses.2.1 104 = .ok (.aaload, 1)) t3 rfl g4) ?_
      refine ai (r_aload (pc := 105) (k := 4) (by decide +kernel : decode k_P_Reckoning_findClasses.2.1 105 = .ok (.aload 4, 2)) rfl) ?_
      rcases ite_some h with ⟨c5, h⟩ | ⟨c5, h⟩
      · refine ai (r_acmp_ne_f (pc := 107) (rx := aR m a2 (ix x6)) (ry := x4) 124 (by decide +kernel : decode k_P_Reckoning_findClasses.2.1 107 = .ok (.if_acmp .ne (17), 3)) (by decide) c5) ?_
        obtain ⟨a6, rfl, hha6⟩ := gs_some h
        have h := hha6
        refine ai (p_aload_n (pc := 110) (k := 2) (by decide +kernel : decode k_P_Reckoning_findClasses.2.1 110 = .ok (.aload_n 2, 1)) rfl rfl) ?_
        refine ai (r_iload (pc := 111) (k := 6) (by decide +kernel : decode k_P_Reckoning_findClasses.2.1 111 = .ok (.iload 6, 2)) rfl) ?_
        obtain ⟨t7, h⟩ := gt_some h
        obtain ⟨g8, h⟩ := gd_some h
        refine ai (p_iald (pc := 113) (by decide +kernel : decode k_P_Reckoning_findClasses.2.1 113 = .ok (.iaload, 1)) t7 rfl g8) ?_
        refine ai (r_iconst (pc := 114) (by decide +kernel : decode k_P_Reckoning_findClasses.2.1 114 = .ok (.iconst (-1), 1)) ic_m1) ?_
        rcases ite_some h with ⟨c9, h⟩ | ⟨c9, h⟩
        · refine ai (r_icmp_eq_t (pc := 115) (tgt := 124) (by decide +kernel : decode k_P_Reckoning_findClasses.2.1 115 = .ok (.if_icmp .eq (9), 3)) (by decide) c9) ?_
          exact (P_Reckoning_findClasses_124_run hk41 (fun _ _ _ _ _ _ _ _ _ q1 q3 => ih q1 q3) hL h)
        · refine ai (r_icmp_eq_f (pc := 115) 124 (by decide +kernel : decode k_P_Reckoning_findClasses.2.1 115 = .ok (.if_icmp .eq (9), 3)) (by decide) c9) ?_
          refine ai (p_aload_n (pc := 118) (k := 2) (by decide +kernel : decode k_P_Reckoning_findClasses.2.1 118 = .ok (.aload_n 2, 1)) rfl rfl) ?_
          refine ai (r_iload (pc := 119) (k := 6) (by decide +kernel : decode k_P_Reckoning_findClasses.2.1 119 = .ok (.iload 6, 2)) rfl) ?_
          refine ai (r_iload (pc := 121) (k := 5) (by decide +kernel : decode k_P_Reckoning_findClasses.2.1 121 = .ok (.iload 5, 2)) rfl) ?_
          obtain ⟨g10, h⟩ := gd_some h
          obtain ⟨m11, hm11, h⟩ := vb_some h
          have hL : PL m11 := by rw [hm11]; exact hL
          have t12 : mT m11 a2 = 37 := by rw [hm11]; exact t3
          have t13 : mT m11 a6 = 32 := by rw [hm11]; exact t7
          refine ai (p_iast (pc := 123) hm11 (by decide +kernel : decode k_P_Reckoning_findClasses.2.1 123 = .ok (.iastore, 1)) t7 rfl g10) ?_
          exact (P_Reckoning_findClasses_124_run hk41 (fun _ _ _ _ _ _ _ _ _ q1 q3 => ih q1 q3) hL h)
      · refine ai (r_acmp_ne_t (pc := 107) (tgt := 124) (rx := aR m a2 (ix x6)) (ry := x4) (by decide +kernel : decode k_P_Reckoning_findClasses.2.1 107 = .ok (.if_acmp .ne (17), 3)) (by decide) c5) ?_
        exact (P_Reckoning_findClasses_124_run hk41 (fun _ _ _ _ _ _ _ _ _ q1 q3 => ih q1 q3) hL h)
set_option maxRecDepth 100000 in
set_option maxHeartbeats 4000000 in
theorem P_Reckoning_findClasses_41_run {n : Nat} {x1 : Option Nat} {x2 : Option Nat} {x3 : Int32} {m m' : Mem} {r : Unit} (hL : PL m) (h : P_Reckoning_findClasses_41 n x1 x2 x3 m = some (r, m')) : Run k_P_Reckoning_findClasses 41 [(0, .ref 28), (1, va_rf x1), (2, va_rf x2), (3, .int x3)] [] m none m' ∧ PL m' := by
  induction n generalizing x1 x2 x3 m r m' with
  | zero => exact absurd h (by simp [P_Reckoning_findClasses_41])
  | succ n ih =>
    rw [P_Reckoning_findClasses_41.eq_2] at h
    refine ai (r_iload_n (pc := 41) (k := 3) (by decide +kernel : decode k_P_Reckoning_findClasses.2.1 41 = .ok (.iload_n 3, 1)) rfl rfl) ?_
    refine ai (p_aload_n (pc := 42) (k := 0) (by decide +kernel : decode k_P_Reckoning_findClasses.2.1 42 = .ok (.aload_n 0, 1)) rfl rfl) ?_
    refine ai (p_getr (pc := 43) (PR_1024_28 hL) (by decide +kernel : decode k_P_Reckoning_findClasses.2.1 43 = .ok (.getfield 54, 3)) lg_8_54 (PC_28 hL).1) ?_
    refine ai (r_getI (pc := 46) (by decide +kernel : decode k_P_Reckoning_findClasses.2.1 46 = .ok (.getfield 97, 3)) lg_8_97 (by decide) (PC_13 hL).1) ?_
    rcases ite_some h with ⟨c1, h⟩ | ⟨c1, h⟩
    · refine ai (r_icmp_ge_t (pc := 49) (tgt := 136) (by decide +kernel : decode k_P_Reckoning_findClasses.2.1 49 = .ok (.if_icmp .ge (87), 3)) (by decide) c1) ?_
      cases h
      exact ⟨r_vret rfl (by decide +kernel : decode k_P_Reckoning_findClasses.2.1 136 = .ok (.return_, 1)), hL⟩
    · refine ai (r_icmp_ge_f (pc := 49) 136 (by decide +kernel : decode k_P_Reckoning_findClasses.2.1 49 = .ok (.if_icmp .ge (87), 3)) (by decide) c1) ?_
      refine ai (p_aload_n (pc := 52) (k := 0) (by decide +kernel : decode k_P_Reckoning_findClasses.2.1 52 = .ok (.aload_n 0, 1)) rfl rfl) ?_
      refine ai (p_getr (pc := 53) (PR_1024_28 hL) (by decide +kernel : decode k_P_Reckoning_findClasses.2.1 53 = .ok (.getfield 54, 3)) lg_8_54 (PC_28 hL).1) ?_
      refine ai (p_getr (pc := 56) (PR_513_13 hL) (by decide +kernel : decode k_P_Reckoning_findClasses.2.1 56 = .ok (.getfield 100, 3)) lg_8_100 (PC_13 hL).1) ?_
      refine ai (r_iload_n (pc := 59) (k := 3) (by decide +kernel : decode k_P_Reckoning_findClasses.2.1 59 = .ok (.iload_n 3, 1)) rfl rfl) ?_
      obtain ⟨g2, h⟩ := gd_some h
      obtain ⟨a3, o4, h⟩ := gs_some h
      refine ai (p_aaldr (pc := 60) (j := 1) (by decide) o4 (by decide +kernel : decode k_P_Reckoning_findClasses.2.1 60 = .ok (.aaload, 1)) (PC_15 hL).1 (PC_15 hL).2 g2) ?_
      refine ai (p_astore (pc := 61) (by decide +kernel : decode k_P_Reckoning_findClasses.2.1 61 = .ok (.astore 4, 2)) (by decide) rfl (ls2 := [(4, .ref a3), (0, .ref 28), (1, va_rf x1), (2, va_rf x2), (3, .int x3)]) (i := 4)) ?_
      refine ai (p_aload (pc := 63) (k := 0) (by decide +kernel : decode k_P_Reckoning_findClasses.2.1 63 = .ok (.aload 4, 2)) rfl) ?_
      obtain ⟨t5, h⟩ := gt_some h
      refine ai (r_getI (pc := 65) (by decide +kernel : decode k_P_Reckoning_findClasses.2.1 65 = .ok (.getfield 137, 3)) lg_8_137 (by decide) t5) ?_
      rcases ite_some h with ⟨c6, h⟩ | ⟨c6, h⟩
      · refine ai (r_if_eq_t (pc := 68) (tgt := 130) (by decide +kernel : decode k_P_Reckoning_findClasses.2.1 68 = .ok (.ifCond .eq (62), 3)) (by decide) c6) ?_
        exact (ai (r_sub [1, 2, 3, 4] rfl) (P_Reckoning_findClasses_130_run (fun _ _ _ _ _ _ q1 q3 => ih q1 q3) hL h))
      · refine ai (r_if_eq_f (pc := 68) 130 (by decide +kernel : decode k_P_Reckoning_findClasses.2.1 68 = .ok (.ifCond .eq (62), 3)) (by decide) c6) ?_
        refine ai (p_aload (pc := 71) (k := 0) (by decide +kernel : decode k_P_Reckoning_findClasses.2.1 71 = .ok (.aload 4, 2)) rfl) ?_
        refine ai (r_getI (pc := 73) (by decide +kernel : decode k_P_Reckoning_findClasses.2.1 73 = .ok (.getfield 249, 3)) lg_8_249 (by decide) t5) ?_
        refine ai (r_bipush (pc := 76) (by decide +kernel : decode k_P_Reckoning_findClasses.2.1 76 = .ok (.bipush (51), 2)) (by decide : _ = (51 : Int32))) ?_
        rcases ite_some h with ⟨c7, h⟩ | ⟨c7, h⟩
        · refine ai (r_icmp_eq_t (pc := 78) (tgt := 130) (by decide +kernel : decode k_P_Reckoning_findClasses.2.1 78 = .ok (.if_icmp .eq (52), 3)) (by decide) c7) ?_
          exact (ai (r_sub [1, 2, 3, 4] rfl) (P_Reckoning_findClasses_130_run (fun _ _ _ _ _ _ q1 q3 => ih q1 q3) hL h))
        · refine ai (r_icmp_eq_f (pc := 78) 130 (by decide +kernel : decode k_P_Reckoning_findClasses.2.1 78 = .ok (.if_icmp .eq (52), 3)) (by decide) c7) ?_
          refine ai (p_aload_n (pc := 81) (k := 1) (by decide +kernel : decode k_P_Reckoning_findClasses.2.1 81 = .ok (.aload_n 0, 1)) rfl rfl) ?_
          refine ai (p_aload (pc := 82) (k := 0) (by decide +kernel : decode k_P_Reckoning_findClasses.2.1 82 = .ok (.aload 4, 2)) rfl) ?_
          refine ai (r_aload_n (pc := 84) (k := 2) (by decide +kernel : decode k_P_Reckoning_findClasses.2.1 84 = .ok (.aload_n 1, 1)) rfl rfl) ?_
          refine ai (r_aload_n (pc := 85) (k := 3) (by decide +kernel : decode k_P_Reckoning_findClasses.2.1 85 = .ok (.aload_n 2, 1)) rfl rfl) ?_
          obtain ⟨r8, m9, hr8, h⟩ := bn_some h
          have q10 := P_Reckoning_chosenClass_run hL hr8
          have c11 := (PC_28 hL).1
          have hL := q10.2
          refine ai (q_callV (pc := 86) (As := [.ref a3, va_rf x1, va_rf x2]) (st := []) (st2 := [.int r8]) (b := 28) (by simp [lv_args, vrc, vrs, cti, ctr, ctl, ctn, cta]) rfl (by decide +kernel : decode k_P_Reckoning_findClasses.2.1 86 = .ok (.invokevirtual 252, 3)) lc_8_252 mo_P_Reckoning_chosenClass ⟨Nat.le_of_ble_eq_true rfl, Nat.le_of_ble_eq_true rfl⟩ (by simp [lg_sl, vrc, vrs, cti, ctr, ctl, ctn, cta, k_P_Reckoning_chosenClass]) (Nat.le_of_ble_eq_true rfl) c11 q10.1) ?_
          refine ai (e_istore (pc := 89) rfl (by decide +kernel : decode k_P_Reckoning_findClasses.2.1 89 = .ok (.istore 5, 2)) (by decide) rfl (ls2 := [(5, .int r8), (4, .ref a3), (0, .ref 28), (1, va_rf x1), (2, va_rf x2), (3, .int x3)]) (i := 5)) ?_
          refine ai (r_iconst (pc := 91) (by decide +kernel : decode k_P_Reckoning_findClasses.2.1 91 = .ok (.iconst 0, 1)) ic_0) ?_
          refine ai (e_istore (pc := 92) rfl (by decide +kernel : decode k_P_Reckoning_findClasses.2.1 92 = .ok (.istore 6, 2)) (by decide) rfl (ls2 := [(6, .int 0), (5, .int r8), (4, .ref a3), (0, .ref 28), (1, va_rf x1), (2, va_rf x2), (3, .int x3)]) (i := 6)) ?_
          exact (ai (r_sub [3, 4, 5, 6, 2, 1, 0] rfl) (P_Reckoning_findClasses_94_run (fun _ _ _ _ _ _ q1 q3 => ih q1 q3) hL h))
set_option maxRecDepth 100000 in
set_option maxHeartbeats 4000000 in
theorem P_Reckoning_findClasses_39_run {x1 : Option Nat} {x2 : Option Nat} {m m' : Mem} {r : Unit} (hL : PL m) (h : P_Reckoning_findClasses_39 x1 x2 m = some (r, m')) : Run k_P_Reckoning_findClasses 39 [(0, .ref 28), (1, va_rf x1), (2, va_rf x2)] [] m none m' ∧ PL m' := by
  unfold P_Reckoning_findClasses_39 at h
  refine ai (r_iconst (pc := 39) (by decide +kernel : decode k_P_Reckoning_findClasses.2.1 39 = .ok (.iconst 0, 1)) ic_0) ?_
  refine ai (e_istore_n (pc := 40) rfl (by decide +kernel : decode k_P_Reckoning_findClasses.2.1 40 = .ok (.istore_n 3, 1)) rfl (by decide) (by simp [f1, vrc, vrs, cti, ctr, ctl, ctn, cta]) (ls2 := [(3, .int 0), (0, .ref 28), (1, va_rf x1), (2, va_rf x2)]) (i := 3)) ?_
  exact (ai (r_sub [1, 2, 3, 0] rfl) (P_Reckoning_findClasses_41_run hL h))
set_option maxRecDepth 100000 in
set_option maxHeartbeats 4000000 in
theorem P_Reckoning_findClasses_2_run {n : Nat} {x1 : Option Nat} {x2 : Option Nat} {x3 : Int32} {m m' : Mem} {r : Unit} (hL : PL m) (h : P_Reckoning_findClasses_2 n x1 x2 x3 m = some (r, m')) : Run k_P_Reckoning_findClasses 2 [(0, .ref 28), (1, va_rf x1), (2, va_rf x2), (3, .int x3)] [] m none m' ∧ PL m' := by
  induction n generalizing x1 x2 x3 m r m' with
  | zero => exact absurd h (by simp [P_Reckoning_findClasses_2])
  | succ n ih =>
    rw [P_Reckoning_findClasses_2.eq_2] at h
    refine ai (r_iload_n (pc := 2) (k := 3) (by decide +kernel : decode k_P_Reckoning_findClasses.2.1 2 = .ok (.iload_n 3, 1)) rfl rfl) ?_
    refine ai (r_bipush (pc := 3) (by decide +kernel : decode k_P_Reckoning_findClasses.2.1 3 = .ok (.bipush (48), 2)) (by decide : _ = (48 : Int32))) ?_
    rcases ite_some h with ⟨c1, h⟩ | ⟨c1, h⟩
    · refine ai (r_icmp_ge_t (pc := 5) (tgt := 39) (by decide +kernel : decode k_P_Reckoning_findClasses.2.1 5 = .ok (.if_icmp .ge (34), 3)) (by decide) c1) ?_
      exact (ai (r_sub [0, 1, 2] rfl) (P_Reckoning_findClasses_39_run hL h))
    · refine ai (r_icmp_ge_f (pc := 5) 39 (by decide +kernel : decode k_P_Reckoning_findClasses.2.1 5 = .ok (.if_icmp .ge (34), 3)) (by decide) c1) ?_
      refine ai (r_aload_n (pc := 8) (k := 2) (by decide +kernel : decode k_P_Reckoning_findClasses.2.1 8 = .ok (.aload_n 2, 1)) rfl rfl) ?_
      refine ai (r_iload_n (pc := 9) (k := 3) (by decide +kernel : decode k_P_Reckoning_findClasses.2.1 9 = .ok (.iload_n 3, 1)) rfl rfl) ?_
      obtain ⟨a2, rfl, hha2⟩ := gs_some h
      have h := hha2
      refine ai (p_aload_n (pc := 10) (k := 1) (by decide +kernel : decode k_P_Reckoning_findClasses.2.1 10 = .ok (.aload_n 1, 1)) rfl rfl) ?_
      refine ai (r_iload_n (pc := 11) (k := 3) (by decide +kernel : decode k_P_Reckoning_findClasses.2.1 11 = .ok (.iload_n 3, 1)) rfl rfl) ?_
      obtain ⟨t3, h⟩ := gt_some h
      obtain ⟨g4, h⟩ := gd_some h
      refine ai (p_aald (pc := 12) (j := 1) (by decide) (by decide +kernel : decode k_P_Reckoning_findClasses.2.1 12 = .ok (.aaload, 1)) t3 rfl g4) ?_
      rcases ite_some h with ⟨c5, h⟩ | ⟨c5, h⟩
      · refine ai (d_ifnonnull_f (pc := 13) c5 (by decide +kernel : decode k_P_Reckoning_findClasses.2.1 13 = .ok (.ifnonnull (7), 3))) ?_
        refine ai (r_iconst (pc := 16) (by decide +kernel : decode k_P_Reckoning_findClasses.2.1 16 = .ok (.iconst (-1), 1)) ic_m1) ?_
        refine ai (r_goto (pc := 17) (tgt := 32) (by decide +kernel : decode k_P_Reckoning_findClasses.2.1 17 = .ok (.goto (15), 3)) (by decide)) ?_
        exact (P_Reckoning_findClasses_32_run (fun _ _ _ _ _ _ q1 q3 => ih q1 q3) hL h)
      · refine ai (d_ifnonnull_t (pc := 13) (tgt := 20) c5 (by decide +kernel : decode k_P_Reckoning_findClasses.2.1 13 = .ok (.ifnonnull (7), 3)) (by decide)) ?_
        refine ai (p_aload_n (pc := 20) (k := 1) (by decide +kernel : decode k_P_Reckoning_findClasses.2.1 20 = .ok (.aload_n 1, 1)) rfl rfl) ?_
        refine ai (r_iload_n (pc := 21) (k := 3) (by decide +kernel : decode k_P_Reckoning_findClasses.2.1 21 = .ok (.iload_n 3, 1)) rfl rfl) ?_
        obtain ⟨g6, h⟩ := gd_some h
        obtain ⟨a7, o8, h⟩ := gs_some h
        refine ai (p_aaldr (pc := 22) (j := 1) (by decide) o8 (by decide +kernel : decode k_P_Reckoning_findClasses.2.1 22 = .ok (.aaload, 1)) t3 rfl g6) ?_
        refine ai (p_aload_n (pc := 23) (k := 0) (by decide +kernel : decode k_P_Reckoning_findClasses.2.1 23 = .ok (.aload_n 0, 1)) rfl rfl) ?_
        refine ai (p_getr (pc := 24) (PR_1030_28 hL) (by decide +kernel : decode k_P_Reckoning_findClasses.2.1 24 = .ok (.getfield 17, 3)) lg_8_17 (PC_28 hL).1) ?_
        refine ai (r_iload_n (pc := 27) (k := 3) (by decide +kernel : decode k_P_Reckoning_findClasses.2.1 27 = .ok (.iload_n 3, 1)) rfl rfl) ?_
        obtain ⟨g9, h⟩ := gd_some h
        refine ai (p_iald (pc := 28) (by decide +kernel : decode k_P_Reckoning_findClasses.2.1 28 = .ok (.iaload, 1)) (PC_30 hL).1 (PC_30 hL).2 g9) ?_
        obtain ⟨t10, h⟩ := gt_some h
        obtain ⟨r11, m12, hr11, h⟩ := bn_some h
        have q13 := P_Text_firstClass_run hL t10 hr11
        have hL := q13.2
        refine ai (q_callV (pc := 29) (As := [.int (aI m 30 (ix x3))]) (st := [.int x3, va_rf x2]) (st2 := [.int r11, .int x3, va_rf x2]) (b := a7) rfl rfl (by decide +kernel : decode k_P_Reckoning_findClasses.2.1 29 = .ok (.invokevirtual 246, 3)) lc_8_246 mo_P_Text_firstClass ⟨Nat.le_of_ble_eq_true rfl, Nat.le_of_ble_eq_true rfl⟩ (Nat.le_of_ble_eq_true rfl) (by simp [vrc, cti, ctr, ctl, ctn, cta]) t10 q13.1) ?_
        exact (P_Reckoning_findClasses_32_run (fun _ _ _ _ _ _ q1 q3 => ih q1 q3) hL h)
set_option maxRecDepth 100000 in
set_option maxHeartbeats 4000000 in
theorem P_Reckoning_findClasses_run {x1 : Option Nat} {x2 : Option Nat} {m m' : Mem} {r : Unit} (hL : PL m) (h : P_Reckoning_findClasses x1 x2 m = some (r, m')) : Run k_P_Reckoning_findClasses 0 [(0, .ref 28), (1, va_rf x1), (2, va_rf x2)] [] m none m' ∧ PL m' := by
  unfold P_Reckoning_findClasses at h
  refine ai (r_iconst (pc := 0) (by decide +kernel : decode k_P_Reckoning_findClasses.2.1 0 = .ok (.iconst 0, 1)) ic_0) ?_
  refine ai (e_istore_n (pc := 1) rfl (by decide +kernel : decode k_P_Reckoning_findClasses.2.1 1 = .ok (.istore_n 3, 1)) rfl (by decide) (by simp [f1, vrc, vrs, cti, ctr, ctl, ctn, cta]) (ls2 := [(3, .int 0), (0, .ref 28), (1, va_rf x1), (2, va_rf x2)]) (i := 3)) ?_
  exact (ai (r_sub [1, 2, 3, 0] rfl) (P_Reckoning_findClasses_2_run hL h))
set_option maxRecDepth 100000 in
set_option maxHeartbeats 4000000 in
theorem P_Scene_basket_run {m m' : Mem} {r : Int32} (hL : PL m) (h : P_Scene_basket m = some (r, m')) : Run k_P_Scene_basket 0 [(0, .ref 25)] [] m (some (.int r)) m' ∧ PL m' := by
  unfold P_Scene_basket at h
  refine ai (p_aload_n (pc := 0) (k := 0) (by decide +kernel : decode k_P_Scene_basket.2.1 0 = .ok (.aload_n 0, 1)) rfl rfl) ?_
  refine ai (p_getr (pc := 1) (PR_1156_25 hL) (by decide +kernel : decode k_P_Scene_basket.2.1 1 = .ok (.getfield 15, 3)) lg_9_15 (PC_25 hL).1) ?_
  refine ai (r_iconst (pc := 4) (by decide +kernel : decode k_P_Scene_basket.2.1 4 = .ok (.iconst 0, 1)) ic_0) ?_
  obtain ⟨g1, h⟩ := gd_some h
  refine ai (p_iald (pc := 5) (by decide +kernel : decode k_P_Scene_basket.2.1 5 = .ok (.iaload, 1)) (PC_27 hL).1 (PC_27 hL).2 g1) ?_
  cases h
  exact ⟨r_iret rfl (by decide +kernel : decode k_P_Scene_basket.2.1 6 = .ok (.ireturn, 1)), hL⟩
set_option maxRecDepth 100000 in
set_option maxHeartbeats 4000000 in
theorem P_Reckoning_worthBy_244_run {k70 : Option Nat → Int32 → Int32 → Int64 → Int32 → Mem → Option (Int32 × Mem)} {x1 : Option Nat} {x4 : Int32} {x5 : Int32} {x6 : Int64} {x8 : Int32} {m m' : Mem} {r : Int32} (hk70 : ∀ (x1 : Option Nat) (x4 : Int32) (x5 : Int32) (x6 : Int64) (x8 : Int32) (m : Mem) (r : Int32) (m' : Mem), PL m → k70 x1 x4 x5 x6 x8 m = some (r, m') → Run k_P_Reckoning_worthBy 70 [(0, .ref 28), (1, va_rf x1), (4, .int x4), (5, .int x5), (6, .long x6), (8, .int x8)] [] m (some (.int r)) m' ∧ PL m') (hL : PL m) (h : P_Reckoning_worthBy_244 k70 x1 x4 x5 x6 x8 m = some (r, m')) : Run k_P_Reckoning_worthBy 244 [(0, .ref 28), (1, va_rf x1), (4, .int x4), (5, .int x5), (6, .long x6), (8, .int x8)] [] m (some (.int r)) m' ∧ PL m' := by
  unfold P_Reckoning_worthBy_244 at h
  obtain ⟨v1, hv1, h⟩ := vb_some h
  refine ai (e_iinc (pc := 244) (k := 5) hv1 ic_1 (by decide +kernel : decode k_P_Reckoning_worthBy.2.1 244 = .ok (.iinc 8 (1), 3)) rfl (by decide) rfl (ls2 := [(8, .int v1), (0, .ref 28), (1, va_rf x1), (4, .int x4), (5, .int x5), (6, .long x6)]) (i := 8)) ?_
  refine ai (r_goto (pc := 247) (tgt := 70) (by decide +kernel : decode k_P_Reckoning_worthBy.2.1 247 = .ok (.goto (-177), 3)) (by decide)) ?_
  exact (ai (r_sub [1, 2, 3, 4, 5, 0] rfl) (hk70 x1 x4 x5 x6 v1 m _ _ hL h))
set_option maxRecDepth 100000 in
set_option maxHeartbeats 4000000 in
theorem P_Reckoning_worthBy_207_run {k70 : Option Nat → Int32 → Int32 → Int64 → Int32 → Mem → Option (Int32 × Mem)} {x1 : Option Nat} {x4 : Int32} {x6 : Int64} {x8 : Int32} {x9 : Option Nat} {s0 : Int32} {s1 : Int32} {m m' : Mem} {r : Int32} (hk70 : ∀ (x1 : Option Nat) (x4 : Int32) (x5 : Int32) (x6 : Int64) (x8 : Int32) (m : Mem) (r : Int32) (m' : Mem), PL m → k70 x1 x4 x5 x6 x8 m = some (r, m') → Run k_P_Reckoning_worthBy 70 [(0, .ref 28), (1, va_rf x1), (4, .int x4), (5, .int x5), (6, .long x6), (8, .int x8)] [] m (some (.int r)) m' ∧ PL m') (hL : PL m) (h : P_Reckoning_worthBy_207 k70 x1 x4 x6 x8 x9 s0 s1 m = some (r, m')) : Run k_P_Reckoning_worthBy 207 [(0, .ref 28), (1, va_rf x1), (4, .int x4), (6, .long x6), (8, .int x8), (9, va_rf x9)] [.int s0, .int s1] m (some (.int r)) m' ∧ PL m' := by
  unfold P_Reckoning_worthBy_207 at h
  refine ai (r_iadd (pc := 207) (by decide +kernel : decode k_P_Reckoning_worthBy.2.1 207 = .ok (.iadd, 1))) ?_
  obtain ⟨v1, hv1, h⟩ := vb_some h
  refine ai (e_istore (pc := 208) hv1 (by decide +kernel : decode k_P_Reckoning_worthBy.2.1 208 = .ok (.istore 5, 2)) (by decide) rfl (ls2 := [(5, .int v1), (0, .ref 28), (1, va_rf x1), (4, .int x4), (6, .long x6), (8, .int x8), (9, va_rf x9)]) (i := 5)) ?_
  refine ai (r_lload (pc := 210) (k := 4) (by decide +kernel : decode k_P_Reckoning_worthBy.2.1 210 = .ok (.lload 6, 2)) rfl) ?_
  obtain ⟨a2, rfl, hha2⟩ := gs_some h
  have h := hha2
  refine ai (p_aload (pc := 212) (k := 6) (by decide +kernel : decode k_P_Reckoning_worthBy.2.1 212 = .ok (.aload 9, 2)) rfl) ?_
  obtain ⟨t3, h⟩ := gt_some h
  refine ai (r_getL (pc := 214) (by decide +kernel : decode k_P_Reckoning_worthBy.2.1 214 = .ok (.getfield 295, 3)) lg_8_295 t3) ?_
  refine ai (r_lor (pc := 217) (by decide +kernel : decode k_P_Reckoning_worthBy.2.1 217 = .ok (.lor, 1))) ?_
  obtain ⟨v4, hv4, h⟩ := vb_some h
  refine ai (e_lstore (pc := 218) hv4 (by decide +kernel : decode k_P_Reckoning_worthBy.2.1 218 = .ok (.lstore 6, 2)) (by decide) rfl (ls2 := [(6, .long v4), (5, .int v1), (0, .ref 28), (1, va_rf x1), (4, .int x4), (8, .int x8), (9, .ref a2)]) (i := 6)) ?_
  refine ai (p_aload_n (pc := 220) (k := 2) (by decide +kernel : decode k_P_Reckoning_worthBy.2.1 220 = .ok (.aload_n 0, 1)) rfl rfl) ?_
  refine ai (p_getr (pc := 221) (PR_1042_28 hL) (by decide +kernel : decode k_P_Reckoning_worthBy.2.1 221 = .ok (.getfield 51, 3)) lg_8_51 (PC_28 hL).1) ?_
  refine ai (p_aload_n (pc := 224) (k := 2) (by decide +kernel : decode k_P_Reckoning_worthBy.2.1 224 = .ok (.aload_n 0, 1)) rfl rfl) ?_
  refine ai (r_getI (pc := 225) (by decide +kernel : decode k_P_Reckoning_worthBy.2.1 225 = .ok (.getfield 276, 3)) lg_8_276 (by decide) (PC_28 hL).1) ?_
  refine ai (p_aload (pc := 228) (k := 6) (by decide +kernel : decode k_P_Reckoning_worthBy.2.1 228 = .ok (.aload 9, 2)) rfl) ?_
  refine ai (r_getI (pc := 230) (by decide +kernel : decode k_P_Reckoning_worthBy.2.1 230 = .ok (.getfield 288, 3)) lg_8_288 (by decide) t3) ?_
  obtain ⟨g5, h⟩ := gd_some h
  have c6 := (PC_40 hL).1
  have c7 := (PC_40 hL).2
  obtain ⟨m8, hm8, h⟩ := vb_some h
  have hL : PL m8 := by rw [hm8]; exact hL
  have t9 : mT m8 a2 = 3 := by rw [hm8]; exact t3
  refine ai (p_iast (pc := 233) hm8 (by decide +kernel : decode k_P_Reckoning_worthBy.2.1 233 = .ok (.iastore, 1)) c6 c7 g5) ?_
  refine ai (p_aload_n (pc := 234) (k := 2) (by decide +kernel : decode k_P_Reckoning_worthBy.2.1 234 = .ok (.aload_n 0, 1)) rfl rfl) ?_
  refine ai (r_dup (pc := 235) (by decide +kernel : decode k_P_Reckoning_worthBy.2.1 235 = .ok (.dup, 1)) (rfl)) ?_
  refine ai (r_getI (pc := 236) (by decide +kernel : decode k_P_Reckoning_worthBy.2.1 236 = .ok (.getfield 276, 3)) lg_8_276 (by decide) (PC_28 hL).1) ?_
  refine ai (r_iconst (pc := 239) (by decide +kernel : decode k_P_Reckoning_worthBy.2.1 239 = .ok (.iconst 1, 1)) ic_1) ?_
  refine ai (r_iadd (pc := 240) (by decide +kernel : decode k_P_Reckoning_worthBy.2.1 240 = .ok (.iadd, 1))) ?_
  have c10 := (PC_28 hL).1
  obtain ⟨m11, hm11, h⟩ := vb_some h
  have hL : PL m11 := by rw [hm11]; exact hL
  have t12 : mT m11 a2 = 3 := by rw [hm11]; exact t9
  refine ai (p_putI (pc := 241) hm11 (by decide +kernel : decode k_P_Reckoning_worthBy.2.1 241 = .ok (.putfield 276, 3)) lp_8_276 c10) ?_
  exact (ai (r_sub [2, 3, 4, 1, 0, 5] rfl) (P_Reckoning_worthBy_244_run hk70 hL h))
set_option maxRecDepth 100000 in
set_option maxHeartbeats 4000000 in
theorem P_Reckoning_worthBy_179_run {k70 : Option Nat → Int32 → Int32 → Int64 → Int32 → Mem → Option (Int32 × Mem)} {x1 : Option Nat} {x5 : Int32} {x6 : Int64} {x8 : Int32} {x9 : Option Nat} {x10 : Int32} {s0 : Int32} {s1 : Int32} {m m' : Mem} {r : Int32} (hk70 : ∀ (x1 : Option Nat) (x4 : Int32) (x5 : Int32) (x6 : Int64) (x8 : Int32) (m : Mem) (r : Int32) (m' : Mem), PL m → k70 x1 x4 x5 x6 x8 m = some (r, m') → Run k_P_Reckoning_worthBy 70 [(0, .ref 28), (1, va_rf x1), (4, .int x4), (5, .int x5), (6, .long x6), (8, .int x8)] [] m (some (.int r)) m' ∧ PL m') (hL : PL m) (h : P_Reckoning_worthBy_179 k70 x1 x5 x6 x8 x9 x10 s0 s1 m = some (r, m')) : Run k_P_Reckoning_worthBy 179 [(0, .ref 28), (1, va_rf x1), (5, .int x5), (6, .long x6), (8, .int x8), (9, va_rf x9), (10, .int x10)] [.int s0, .int s1] m (some (.int r)) m' ∧ PL m' := by
  unfold P_Reckoning_worthBy_179 at h
  refine ai (r_iadd (pc := 179) (by decide +kernel : decode k_P_Reckoning_worthBy.2.1 179 = .ok (.iadd, 1))) ?_
  obtain ⟨v1, hv1, h⟩ := vb_some h
  refine ai (e_istore (pc := 180) hv1 (by decide +kernel : decode k_P_Reckoning_worthBy.2.1 180 = .ok (.istore 4, 2)) (by decide) rfl (ls2 := [(4, .int v1), (0, .ref 28), (1, va_rf x1), (5, .int x5), (6, .long x6), (8, .int x8), (9, va_rf x9), (10, .int x10)]) (i := 4)) ?_
  refine ai (r_iload (pc := 182) (k := 3) (by decide +kernel : decode k_P_Reckoning_worthBy.2.1 182 = .ok (.iload 5, 2)) rfl) ?_
  obtain ⟨a2, rfl, hha2⟩ := gs_some h
  have h := hha2
  refine ai (p_aload (pc := 184) (k := 6) (by decide +kernel : decode k_P_Reckoning_worthBy.2.1 184 = .ok (.aload 9, 2)) rfl) ?_
  obtain ⟨t3, h⟩ := gt_some h
  refine ai (r_getI (pc := 186) (by decide +kernel : decode k_P_Reckoning_worthBy.2.1 186 = .ok (.getfield 213, 3)) lg_8_213 (by decide) t3) ?_
  refine ai (r_bipush (pc := 189) (by decide +kernel : decode k_P_Reckoning_worthBy.2.1 189 = .ok (.bipush (37), 2)) (by decide : _ = (37 : Int32))) ?_
  rcases ite_some h with ⟨c4, h⟩ | ⟨c4, h⟩
  · refine ai (r_icmp_ne_f (pc := 191) 206 (by decide +kernel : decode k_P_Reckoning_worthBy.2.1 191 = .ok (.if_icmp .ne (15), 3)) (by decide) c4) ?_
    refine ai (r_iload (pc := 194) (k := 7) (by decide +kernel : decode k_P_Reckoning_worthBy.2.1 194 = .ok (.iload 10, 2)) rfl) ?_
    refine ai (r_iconst (pc := 196) (by decide +kernel : decode k_P_Reckoning_worthBy.2.1 196 = .ok (.iconst 0, 1)) ic_0) ?_
    refine ai (r_sipush (pc := 197) (by decide +kernel : decode k_P_Reckoning_worthBy.2.1 197 = .ok (.sipush (999), 3)) (by decide : _ = (999 : Int32))) ?_
    obtain ⟨r5, hr5, h⟩ := bp_some h
    refine ai (q_callSN (pc := 200) (As := [.int x10, .int 0, .int 999]) (st := [.int x5]) (st2 := [.int r5, .int x5]) rfl rfl (by decide +kernel : decode k_P_Reckoning_worthBy.2.1 200 = .ok (.invokestatic 292, 3)) lc_8_292 mo_P_held ⟨Nat.le_of_ble_eq_true rfl, Nat.le_of_ble_eq_true rfl⟩ (Nat.le_of_ble_eq_true rfl) (Nat.le_of_ble_eq_true rfl) (P_held_run hr5)) ?_
    refine ai (r_goto (pc := 203) (tgt := 207) (by decide +kernel : decode k_P_Reckoning_worthBy.2.1 203 = .ok (.goto (4), 3)) (by decide)) ?_
    exact (ai (r_sub [1, 2, 0, 4, 5, 6] rfl) (P_Reckoning_worthBy_207_run hk70 hL h))
  · refine ai (r_icmp_ne_t (pc := 191) (tgt := 206) (by decide +kernel : decode k_P_Reckoning_worthBy.2.1 191 = .ok (.if_icmp .ne (15), 3)) (by decide) c4) ?_
    refine ai (r_iconst (pc := 206) (by decide +kernel : decode k_P_Reckoning_worthBy.2.1 206 = .ok (.iconst 0, 1)) ic_0) ?_
    exact (ai (r_sub [1, 2, 0, 4, 5, 6] rfl) (P_Reckoning_worthBy_207_run hk70 hL h))
set_option maxRecDepth 100000 in
set_option maxHeartbeats 4000000 in
theorem P_Reckoning_worthBy_131_run {k70 : Option Nat → Int32 → Int32 → Int64 → Int32 → Mem → Option (Int32 × Mem)} {x1 : Option Nat} {x4 : Int32} {x5 : Int32} {x6 : Int64} {x8 : Int32} {x9 : Option Nat} {m m' : Mem} {r : Int32} (hk70 : ∀ (x1 : Option Nat) (x4 : Int32) (x5 : Int32) (x6 : Int64) (x8 : Int32) (m : Mem) (r : Int32) (m' : Mem), PL m → k70 x1 x4 x5 x6 x8 m = some (r, m') → Run k_P_Reckoning_worthBy 70 [(0, .ref 28), (1, va_rf x1), (4, .int x4), (5, .int x5), (6, .long x6), (8, .int x8)] [] m (some (.int r)) m' ∧ PL m') (hL : PL m) (h : P_Reckoning_worthBy_131 k70 x1 x4 x5 x6 x8 x9 m = some (r, m')) : Run k_P_Reckoning_worthBy 131 [(0, .ref 28), (1, va_rf x1), (4, .int x4), (5, .int x5), (6, .long x6), (8, .int x8), (9, va_rf x9)] [] m (some (.int r)) m' ∧ PL m' := by
  unfold P_Reckoning_worthBy_131 at h
  refine ai (p_aload_n (pc := 131) (k := 0) (by decide +kernel : decode k_P_Reckoning_worthBy.2.1 131 = .ok (.aload_n 0, 1)) rfl rfl) ?_
  refine ai (p_getr (pc := 132) (PR_1025_28 hL) (by decide +kernel : decode k_P_Reckoning_worthBy.2.1 132 = .ok (.getfield 58, 3)) lg_8_58 (PC_28 hL).1) ?_
  refine ai (p_getr (pc := 135) (PR_1154_25 hL) (by decide +kernel : decode k_P_Reckoning_worthBy.2.1 135 = .ok (.getfield 220, 3)) lg_8_220 (PC_25 hL).1) ?_
  obtain ⟨a1, rfl, hha1⟩ := gs_some h
  have h := hha1
  refine ai (p_aload (pc := 138) (k := 6) (by decide +kernel : decode k_P_Reckoning_worthBy.2.1 138 = .ok (.aload 9, 2)) rfl) ?_
  obtain ⟨t2, h⟩ := gt_some h
  refine ai (p_getR (pc := 140) (by decide +kernel : decode k_P_Reckoning_worthBy.2.1 140 = .ok (.getfield 289, 3)) lg_8_289 t2) ?_
  refine ai (p_aload_n (pc := 143) (k := 0) (by decide +kernel : decode k_P_Reckoning_worthBy.2.1 143 = .ok (.aload_n 0, 1)) rfl rfl) ?_
  refine ai (p_getr (pc := 144) (PR_1040_28 hL) (by decide +kernel : decode k_P_Reckoning_worthBy.2.1 144 = .ok (.getfield 48, 3)) lg_8_48 (PC_28 hL).1) ?_
  refine ai (r_iconst (pc := 147) (by decide +kernel : decode k_P_Reckoning_worthBy.2.1 147 = .ok (.iconst 0, 1)) ic_0) ?_
  obtain ⟨r3, m4, hr3, h⟩ := bn_some h
  have q5 := P_Formula_result_run hL hr3
  have c6 := (PC_1 hL).1
  have hL := q5.2
  refine ai (q_callV (pc := 148) (As := [va_rf (mR m 262 a1), .ref 39, .int 0]) (st := []) (st2 := [.int r3]) (b := 1) (by simp [lv_args, vrc, vrs, cti, ctr, ctl, ctn, cta]) rfl (by decide +kernel : decode k_P_Reckoning_worthBy.2.1 148 = .ok (.invokevirtual 230, 3)) lc_8_230 mo_P_Formula_result ⟨Nat.le_of_ble_eq_true rfl, Nat.le_of_ble_eq_true rfl⟩ (by simp [lg_sl, vrc, vrs, cti, ctr, ctl, ctn, cta, k_P_Formula_result]) (Nat.le_of_ble_eq_true rfl) c6 q5.1) ?_
  refine ai (e_istore (pc := 151) rfl (by decide +kernel : decode k_P_Reckoning_worthBy.2.1 151 = .ok (.istore 10, 2)) (by decide) rfl (ls2 := [(10, .int r3), (0, .ref 28), (1, va_rf x1), (4, .int x4), (5, .int x5), (6, .long x6), (8, .int x8), (9, .ref a1)]) (i := 10)) ?_
  refine ai (r_iload (pc := 153) (k := 3) (by decide +kernel : decode k_P_Reckoning_worthBy.2.1 153 = .ok (.iload 4, 2)) rfl) ?_
  refine ai (p_aload (pc := 155) (k := 7) (by decide +kernel : decode k_P_Reckoning_worthBy.2.1 155 = .ok (.aload 9, 2)) rfl) ?_
  obtain ⟨t7, h⟩ := gt_some h
  refine ai (r_getI (pc := 157) (by decide +kernel : decode k_P_Reckoning_worthBy.2.1 157 = .ok (.getfield 213, 3)) lg_8_213 (by decide) t7) ?_
  refine ai (r_bipush (pc := 160) (by decide +kernel : decode k_P_Reckoning_worthBy.2.1 160 = .ok (.bipush (36), 2)) (by decide : _ = (36 : Int32))) ?_
  rcases ite_some h with ⟨c8, h⟩ | ⟨c8, h⟩
  · refine ai (r_icmp_ne_f (pc := 162) 178 (by decide +kernel : decode k_P_Reckoning_worthBy.2.1 162 = .ok (.if_icmp .ne (16), 3)) (by decide) c8) ?_
    refine ai (r_iload (pc := 165) (k := 0) (by decide +kernel : decode k_P_Reckoning_worthBy.2.1 165 = .ok (.iload 10, 2)) rfl) ?_
    refine ai (r_bipush (pc := 167) (by decide +kernel : decode k_P_Reckoning_worthBy.2.1 167 = .ok (.bipush (-100), 2)) (by decide : _ = (-100 : Int32))) ?_
    refine ai (r_sipush (pc := 169) (by decide +kernel : decode k_P_Reckoning_worthBy.2.1 169 = .ok (.sipush (400), 3)) (by decide : _ = (400 : Int32))) ?_
    obtain ⟨r9, hr9, h⟩ := bp_some h
    refine ai (q_callSN (pc := 172) (As := [.int r3, .int (-100), .int 400]) (st := [.int x4]) (st2 := [.int r9, .int x4]) rfl rfl (by decide +kernel : decode k_P_Reckoning_worthBy.2.1 172 = .ok (.invokestatic 292, 3)) lc_8_292 mo_P_held ⟨Nat.le_of_ble_eq_true rfl, Nat.le_of_ble_eq_true rfl⟩ (Nat.le_of_ble_eq_true rfl) (Nat.le_of_ble_eq_true rfl) (P_held_run hr9)) ?_
    refine ai (r_goto (pc := 175) (tgt := 179) (by decide +kernel : decode k_P_Reckoning_worthBy.2.1 175 = .ok (.goto (4), 3)) (by decide)) ?_
    exact (ai (r_sub [1, 2, 4, 5, 6, 7, 0] rfl) (P_Reckoning_worthBy_179_run hk70 hL h))
  · refine ai (r_icmp_ne_t (pc := 162) (tgt := 178) (by decide +kernel : decode k_P_Reckoning_worthBy.2.1 162 = .ok (.if_icmp .ne (16), 3)) (by decide) c8) ?_
    refine ai (r_iconst (pc := 178) (by decide +kernel : decode k_P_Reckoning_worthBy.2.1 178 = .ok (.iconst 0, 1)) ic_0) ?_
    exact (ai (r_sub [1, 2, 4, 5, 6, 7, 0] rfl) (P_Reckoning_worthBy_179_run hk70 hL h))
set_option maxRecDepth 100000 in
set_option maxHeartbeats 4000000 in
theorem P_Reckoning_worthBy_250_run {x4 : Int32} {x5 : Int32} {m m' : Mem} {r : Int32} (hL : PL m) (h : P_Reckoning_worthBy_250 x4 x5 m = some (r, m')) : Run k_P_Reckoning_worthBy 250 [(0, .ref 28), (4, .int x4), (5, .int x5)] [] m (some (.int r)) m' ∧ PL m' := by
  unfold P_Reckoning_worthBy_250 at h
  refine ai (p_aload_n (pc := 250) (k := 0) (by decide +kernel : decode k_P_Reckoning_worthBy.2.1 250 = .ok (.aload_n 0, 1)) rfl rfl) ?_
  refine ai (r_getI (pc := 251) (by decide +kernel : decode k_P_Reckoning_worthBy.2.1 251 = .ok (.getfield 282, 3)) lg_8_282 (by decide) (PC_28 hL).1) ?_
  refine ai (r_iload (pc := 254) (k := 1) (by decide +kernel : decode k_P_Reckoning_worthBy.2.1 254 = .ok (.iload 4, 2)) rfl) ?_
  refine ai (r_iconst (pc := 256) (by decide +kernel : decode k_P_Reckoning_worthBy.2.1 256 = .ok (.iconst 0, 1)) ic_0) ?_
  refine ai (r_sipush (pc := 257) (by decide +kernel : decode k_P_Reckoning_worthBy.2.1 257 = .ok (.sipush (1000), 3)) (by decide : _ = (1000 : Int32))) ?_
  obtain ⟨r1, hr1, h⟩ := bp_some h
  refine ai (q_callSN (pc := 260) (As := [.int x4, .int 0, .int 1000]) (st := [.int (mI m 1041 28)]) (st2 := [.int r1, .int (mI m 1041 28)]) rfl rfl (by decide +kernel : decode k_P_Reckoning_worthBy.2.1 260 = .ok (.invokestatic 292, 3)) lc_8_292 mo_P_held ⟨Nat.le_of_ble_eq_true rfl, Nat.le_of_ble_eq_true rfl⟩ (Nat.le_of_ble_eq_true rfl) (Nat.le_of_ble_eq_true rfl) (P_held_run hr1)) ?_
  refine ai (r_imul (pc := 263) (by decide +kernel : decode k_P_Reckoning_worthBy.2.1 263 = .ok (.imul, 1))) ?_
  refine ai (r_sipush (pc := 264) (by decide +kernel : decode k_P_Reckoning_worthBy.2.1 264 = .ok (.sipush (200), 3)) (by decide : _ = (200 : Int32))) ?_
  refine ai (r_iload (pc := 267) (k := 2) (by decide +kernel : decode k_P_Reckoning_worthBy.2.1 267 = .ok (.iload 5, 2)) rfl) ?_
  refine ai (r_sipush (pc := 269) (by decide +kernel : decode k_P_Reckoning_worthBy.2.1 269 = .ok (.sipush (9999), 3)) (by decide : _ = (9999 : Int32))) ?_
  refine ai (r_mmin (pc := 272) (by decide +kernel : decode k_P_Reckoning_worthBy.2.1 272 = .ok (.invokestatic 298, 3)) lm_8_298 lm_mmin_st lm_math lm_mmin_cd ⟨by decide, by decide⟩ (Nat.le_of_ble_eq_true rfl)) ?_
  refine ai (r_imul (pc := 275) (by decide +kernel : decode k_P_Reckoning_worthBy.2.1 275 = .ok (.imul, 1))) ?_
  refine ai (r_iadd (pc := 276) (by decide +kernel : decode k_P_Reckoning_worthBy.2.1 276 = .ok (.iadd, 1))) ?_
  cases h
  exact ⟨r_iret rfl (by decide +kernel : decode k_P_Reckoning_worthBy.2.1 277 = .ok (.ireturn, 1)), hL⟩
set_option maxRecDepth 100000 in
set_option maxHeartbeats 4000000 in
theorem P_Reckoning_worthBy_70_run {n : Nat} {x1 : Option Nat} {x4 : Int32} {x5 : Int32} {x6 : Int64} {x8 : Int32} {m m' : Mem} {r : Int32} (hL : PL m) (h : P_Reckoning_worthBy_70 n x1 x4 x5 x6 x8 m = some (r, m')) : Run k_P_Reckoning_worthBy 70 [(0, .ref 28), (1, va_rf x1), (4, .int x4), (5, .int x5), (6, .long x6), (8, .int x8)] [] m (some (.int r)) m' ∧ PL m' := by
  induction n generalizing x1 x4 x5 x6 x8 m r m' with
  | zero => exact absurd h (by simp [P_Reckoning_worthBy_70])
  | succ n ih =>
    rw [P_Reckoning_worthBy_70.eq_2] at h
    refine ai (r_iload (pc := 70) (k := 5) (by decide +kernel : decode k_P_Reckoning_worthBy.2.1 70 = .ok (.iload 8, 2)) rfl) ?_
    obtain ⟨a1, rfl, hha1⟩ := gs_some h
    have h := hha1
    refine ai (p_aload_n (pc := 72) (k := 1) (by decide +kernel : decode k_P_Reckoning_worthBy.2.1 72 = .ok (.aload_n 1, 1)) rfl rfl) ?_
    obtain ⟨t2, h⟩ := gt_some h
    refine ai (r_getI (pc := 73) (by decide +kernel : decode k_P_Reckoning_worthBy.2.1 73 = .ok (.getfield 265, 3)) lg_8_265 (by decide) t2) ?_
    rcases ite_some h with ⟨c3, h⟩ | ⟨c3, h⟩
    · refine ai (r_icmp_ge_t (pc := 76) (tgt := 250) (by decide +kernel : decode k_P_Reckoning_worthBy.2.1 76 = .ok (.if_icmp .ge (174), 3)) (by decide) c3) ?_
      exact (ai (r_sub [0, 2, 3] rfl) (P_Reckoning_worthBy_250_run hL h))
    · refine ai (r_icmp_ge_f (pc := 76) 250 (by decide +kernel : decode k_P_Reckoning_worthBy.2.1 76 = .ok (.if_icmp .ge (174), 3)) (by decide) c3) ?_
      refine ai (p_aload_n (pc := 79) (k := 1) (by decide +kernel : decode k_P_Reckoning_worthBy.2.1 79 = .ok (.aload_n 1, 1)) rfl rfl) ?_
      obtain ⟨a4, o5, h⟩ := gs_some h
      refine ai (p_getr (pc := 80) o5 (by decide +kernel : decode k_P_Reckoning_worthBy.2.1 80 = .ok (.getfield 285, 3)) lg_8_285 t2) ?_
      refine ai (r_iload (pc := 83) (k := 5) (by decide +kernel : decode k_P_Reckoning_worthBy.2.1 83 = .ok (.iload 8, 2)) rfl) ?_
      obtain ⟨t6, h⟩ := gt_some h
      obtain ⟨g7, h⟩ := gd_some h
      obtain ⟨a8, o9, h⟩ := gs_some h
      refine ai (p_aaldr (pc := 85) (j := 0) (by decide) o9 (by decide +kernel : decode k_P_Reckoning_worthBy.2.1 85 = .ok (.aaload, 1)) t6 rfl g7) ?_
      refine ai (p_astore (pc := 86) (by decide +kernel : decode k_P_Reckoning_worthBy.2.1 86 = .ok (.astore 9, 2)) (by decide) rfl (ls2 := [(9, .ref a8), (0, .ref 28), (1, .ref a1), (4, .int x4), (5, .int x5), (6, .long x6), (8, .int x8)]) (i := 9)) ?_
      refine ai (p_aload (pc := 88) (k := 0) (by decide +kernel : decode k_P_Reckoning_worthBy.2.1 88 = .ok (.aload 9, 2)) rfl) ?_
      obtain ⟨t10, h⟩ := gt_some h
      refine ai (r_getI (pc := 90) (by decide +kernel : decode k_P_Reckoning_worthBy.2.1 90 = .ok (.getfield 213, 3)) lg_8_213 (by decide) t10) ?_
      refine ai (r_bipush (pc := 93) (by decide +kernel : decode k_P_Reckoning_worthBy.2.1 93 = .ok (.bipush (34), 2)) (by decide : _ = (34 : Int32))) ?_
      rcases ite_some h with ⟨c11, h⟩ | ⟨c11, h⟩
      · refine ai (r_icmp_eq_t (pc := 95) (tgt := 244) (by decide +kernel : decode k_P_Reckoning_worthBy.2.1 95 = .ok (.if_icmp .eq (149), 3)) (by decide) c11) ?_
        exact (ai (r_sub [1, 2, 3, 4, 5, 6] rfl) (P_Reckoning_worthBy_244_run (fun _ _ _ _ _ _ _ _ q1 q3 => ih q1 q3) hL h))
      · refine ai (r_icmp_eq_f (pc := 95) 244 (by decide +kernel : decode k_P_Reckoning_worthBy.2.1 95 = .ok (.if_icmp .eq (149), 3)) (by decide) c11) ?_
        refine ai (r_lload (pc := 98) (k := 5) (by decide +kernel : decode k_P_Reckoning_worthBy.2.1 98 = .ok (.lload 6, 2)) rfl) ?_
        refine ai (p_aload (pc := 100) (k := 0) (by decide +kernel : decode k_P_Reckoning_worthBy.2.1 100 = .ok (.aload 9, 2)) rfl) ?_
        refine ai (r_getI (pc := 102) (by decide +kernel : decode k_P_Reckoning_worthBy.2.1 102 = .ok (.getfield 288, 3)) lg_8_288 (by decide) t10) ?_
        refine ai (r_lshr (pc := 105) (by decide +kernel : decode k_P_Reckoning_worthBy.2.1 105 = .ok (.lshr, 1))) ?_
        refine ai (r_lconst (pc := 106) (x := 1) (by decide +kernel : decode k_P_Reckoning_worthBy.2.1 106 = .ok (.lconst 1, 1)) (by decide)) ?_
        refine ai (r_land (pc := 107) (by decide +kernel : decode k_P_Reckoning_worthBy.2.1 107 = .ok (.land, 1))) ?_
        refine ai (r_lconst (pc := 108) (x := 0) (by decide +kernel : decode k_P_Reckoning_worthBy.2.1 108 = .ok (.lconst 0, 1)) (by decide)) ?_
        refine ai (r_lcmp (pc := 109) (by decide +kernel : decode k_P_Reckoning_worthBy.2.1 109 = .ok (.lcmp, 1))) ?_
        rcases ite_some h with ⟨c12, h⟩ | ⟨c12, h⟩
        · refine ai (r_if_ne_f (pc := 110) 244 (by decide +kernel : decode k_P_Reckoning_worthBy.2.1 110 = .ok (.ifCond .ne (134), 3)) (by decide) c12) ?_
          refine ai (p_aload (pc := 113) (k := 0) (by decide +kernel : decode k_P_Reckoning_worthBy.2.1 113 = .ok (.aload 9, 2)) rfl) ?_
          obtain ⟨a13, o14, h⟩ := gs_some h
          refine ai (p_getr (pc := 115) o14 (by decide +kernel : decode k_P_Reckoning_worthBy.2.1 115 = .ok (.getfield 224, 3)) lg_8_224 t10) ?_
          obtain ⟨t15, h⟩ := gt_some h
          refine ai (p_alen (pc := 118) (by decide +kernel : decode k_P_Reckoning_worthBy.2.1 118 = .ok (.arraylength, 1)) (by rw [t15]; decide) rfl rfl) ?_
          rcases ite_some h with ⟨c16, h⟩ | ⟨c16, h⟩
          · refine ai (r_if_eq_t (pc := 119) (tgt := 131) (by decide +kernel : decode k_P_Reckoning_worthBy.2.1 119 = .ok (.ifCond .eq (12), 3)) (by decide) c16) ?_
            exact (ai (r_sub [1, 2, 3, 4, 5, 6, 0] rfl) (P_Reckoning_worthBy_131_run (fun _ _ _ _ _ _ _ _ q1 q3 => ih q1 q3) hL h))
          · refine ai (r_if_eq_f (pc := 119) 131 (by decide +kernel : decode k_P_Reckoning_worthBy.2.1 119 = .ok (.ifCond .eq (12), 3)) (by decide) c16) ?_
            refine ai (p_aload_n (pc := 122) (k := 1) (by decide +kernel : decode k_P_Reckoning_worthBy.2.1 122 = .ok (.aload_n 0, 1)) rfl rfl) ?_
            refine ai (p_aload (pc := 123) (k := 0) (by decide +kernel : decode k_P_Reckoning_worthBy.2.1 123 = .ok (.aload 9, 2)) rfl) ?_
            obtain ⟨r17, m18, hr17, h⟩ := bn_some h
            have q19 := P_Reckoning_holds_run hL hr17
            have c20 := (PC_28 hL).1
            have hL := q19.2
            refine ai (q_callV (pc := 125) (As := [.ref a8]) (st := []) (st2 := [.int r17]) (b := 28) rfl rfl (by decide +kernel : decode k_P_Reckoning_worthBy.2.1 125 = .ok (.invokevirtual 216, 3)) lc_8_216 mo_P_Reckoning_holds ⟨Nat.le_of_ble_eq_true rfl, Nat.le_of_ble_eq_true rfl⟩ (Nat.le_of_ble_eq_true rfl) (Nat.le_of_ble_eq_true rfl) c20 q19.1) ?_
            rcases ite_some h with ⟨c21, h⟩ | ⟨c21, h⟩
            · refine ai (r_if_eq_t (pc := 128) (tgt := 244) (by decide +kernel : decode k_P_Reckoning_worthBy.2.1 128 = .ok (.ifCond .eq (116), 3)) (by decide) c21) ?_
              exact (ai (r_sub [1, 2, 3, 4, 5, 6] rfl) (P_Reckoning_worthBy_244_run (fun _ _ _ _ _ _ _ _ q1 q3 => ih q1 q3) hL h))
            · refine ai (r_if_eq_f (pc := 128) 244 (by decide +kernel : decode k_P_Reckoning_worthBy.2.1 128 = .ok (.ifCond .eq (116), 3)) (by decide) c21) ?_
              exact (ai (r_sub [1, 2, 3, 4, 5, 6, 0] rfl) (P_Reckoning_worthBy_131_run (fun _ _ _ _ _ _ _ _ q1 q3 => ih q1 q3) hL h))
        · refine ai (r_if_ne_t (pc := 110) (tgt := 244) (by decide +kernel : decode k_P_Reckoning_worthBy.2.1 110 = .ok (.ifCond .ne (134), 3)) (by decide) c12) ?_
          exact (ai (r_sub [1, 2, 3, 4, 5, 6] rfl) (P_Reckoning_worthBy_244_run (fun _ _ _ _ _ _ _ _ q1 q3 => ih q1 q3) hL h))
set_option maxRecDepth 100000 in
set_option maxHeartbeats 4000000 in
theorem P_Reckoning_worthBy_run {x1 : Option Nat} {x2 : Int32} {x3 : Int32} {m m' : Mem} {r : Int32} (hL : PL m) (h : P_Reckoning_worthBy x1 x2 x3 m = some (r, m')) : Run k_P_Reckoning_worthBy 0 [(0, .ref 28), (1, va_rf x1), (2, .int x2), (3, .int x3)] [] m (some (.int r)) m' ∧ PL m' := by
  unfold P_Reckoning_worthBy at h
  refine ai (p_aload_n (pc := 0) (k := 0) (by decide +kernel : decode k_P_Reckoning_worthBy.2.1 0 = .ok (.aload_n 0, 1)) rfl rfl) ?_
  refine ai (r_iconst (pc := 1) (by decide +kernel : decode k_P_Reckoning_worthBy.2.1 1 = .ok (.iconst 0, 1)) ic_0) ?_
  have c1 := (PC_28 hL).1
  obtain ⟨m2, hm2, h⟩ := vb_some h
  have hL : PL m2 := by rw [hm2]; exact hL
  refine ai (p_putI (pc := 2) hm2 (by decide +kernel : decode k_P_Reckoning_worthBy.2.1 2 = .ok (.putfield 276, 3)) lp_8_276 c1) ?_
  refine ai (r_aload_n (pc := 5) (k := 1) (by decide +kernel : decode k_P_Reckoning_worthBy.2.1 5 = .ok (.aload_n 1, 1)) rfl rfl) ?_
  rcases ite_some h with ⟨c3, h⟩ | ⟨c3, h⟩
  · refine ai (d_ifnull_t (pc := 6) (tgt := 14) c3 (by decide +kernel : decode k_P_Reckoning_worthBy.2.1 6 = .ok (.ifnull (8), 3)) (by decide)) ?_
    refine ai (r_iconst (pc := 14) (by decide +kernel : decode k_P_Reckoning_worthBy.2.1 14 = .ok (.iconst 0, 1)) ic_0) ?_
    cases h
    exact ⟨r_iret rfl (by decide +kernel : decode k_P_Reckoning_worthBy.2.1 15 = .ok (.ireturn, 1)), hL⟩
  · refine ai (d_ifnull_f (pc := 6) c3 (by decide +kernel : decode k_P_Reckoning_worthBy.2.1 6 = .ok (.ifnull (8), 3))) ?_
    refine ai (r_iload_n (pc := 9) (k := 2) (by decide +kernel : decode k_P_Reckoning_worthBy.2.1 9 = .ok (.iload_n 2, 1)) rfl rfl) ?_
    refine ai (r_iconst (pc := 10) (by decide +kernel : decode k_P_Reckoning_worthBy.2.1 10 = .ok (.iconst (-1), 1)) ic_m1) ?_
    rcases ite_some h with ⟨c4, h⟩ | ⟨c4, h⟩
    · refine ai (r_icmp_ne_f (pc := 11) 16 (by decide +kernel : decode k_P_Reckoning_worthBy.2.1 11 = .ok (.if_icmp .ne (5), 3)) (by decide) c4) ?_
      refine ai (r_iconst (pc := 14) (by decide +kernel : decode k_P_Reckoning_worthBy.2.1 14 = .ok (.iconst 0, 1)) ic_0) ?_
      cases h
      exact ⟨r_iret rfl (by decide +kernel : decode k_P_Reckoning_worthBy.2.1 15 = .ok (.ireturn, 1)), hL⟩
    · refine ai (r_icmp_ne_t (pc := 11) (tgt := 16) (by decide +kernel : decode k_P_Reckoning_worthBy.2.1 11 = .ok (.if_icmp .ne (5), 3)) (by decide) c4) ?_
      refine ai (p_aload_n (pc := 16) (k := 0) (by decide +kernel : decode k_P_Reckoning_worthBy.2.1 16 = .ok (.aload_n 0, 1)) rfl rfl) ?_
      refine ai (r_iload_n (pc := 17) (k := 3) (by decide +kernel : decode k_P_Reckoning_worthBy.2.1 17 = .ok (.iload_n 3, 1)) rfl rfl) ?_
      obtain ⟨r5, m6, hr5, h⟩ := bn_some h
      have q7 := P_Reckoning_lookAt_run hL hr5
      have c8 := (PC_28 hL).1
      have hL := q7.2
      refine ai (q_callV (pc := 18) (As := [.int x3]) (st := []) (st2 := []) (b := 28) rfl rfl (by decide +kernel : decode k_P_Reckoning_worthBy.2.1 18 = .ok (.invokevirtual 185, 3)) lc_8_185 mo_P_Reckoning_lookAt ⟨Nat.le_of_ble_eq_true rfl, Nat.le_of_ble_eq_true rfl⟩ (Nat.le_of_ble_eq_true rfl) (Nat.le_of_ble_eq_true rfl) c8 q7.1) ?_
      refine ai (p_aload_n (pc := 21) (k := 0) (by decide +kernel : decode k_P_Reckoning_worthBy.2.1 21 = .ok (.aload_n 0, 1)) rfl rfl) ?_
      refine ai (r_iconst (pc := 22) (by decide +kernel : decode k_P_Reckoning_worthBy.2.1 22 = .ok (.iconst 0, 1)) ic_0) ?_
      refine ai (p_aload_n (pc := 23) (k := 0) (by decide +kernel : decode k_P_Reckoning_worthBy.2.1 23 = .ok (.aload_n 0, 1)) rfl rfl) ?_
      refine ai (p_getr (pc := 24) (PR_1025_28 hL) (by decide +kernel : decode k_P_Reckoning_worthBy.2.1 24 = .ok (.getfield 58, 3)) lg_8_58 (PC_28 hL).1) ?_
      obtain ⟨r9, m10, hr9, h⟩ := bn_some h
      have q11 := P_Scene_basket_run hL hr9
      have c12 := (PC_25 hL).1
      have hL := q11.2
      refine ai (q_callV (pc := 27) (As := []) (st := [.int 0, .ref 28]) (st2 := [.int r9, .int 0, .ref 28]) (b := 25) rfl rfl (by decide +kernel : decode k_P_Reckoning_worthBy.2.1 27 = .ok (.invokevirtual 279, 3)) lc_8_279 mo_P_Scene_basket ⟨Nat.le_of_ble_eq_true rfl, Nat.le_of_ble_eq_true rfl⟩ (Nat.le_of_ble_eq_true rfl) (Nat.le_of_ble_eq_true rfl) c12 q11.1) ?_
      refine ai (p_aload_n (pc := 30) (k := 0) (by decide +kernel : decode k_P_Reckoning_worthBy.2.1 30 = .ok (.aload_n 0, 1)) rfl rfl) ?_
      refine ai (p_getr (pc := 31) (PR_1025_28 hL) (by decide +kernel : decode k_P_Reckoning_worthBy.2.1 31 = .ok (.getfield 58, 3)) lg_8_58 (PC_28 hL).1) ?_
      refine ai (r_aload_n (pc := 34) (k := 1) (by decide +kernel : decode k_P_Reckoning_worthBy.2.1 34 = .ok (.aload_n 1, 1)) rfl rfl) ?_
      refine ai (r_iload_n (pc := 35) (k := 2) (by decide +kernel : decode k_P_Reckoning_worthBy.2.1 35 = .ok (.iload_n 2, 1)) rfl rfl) ?_
      obtain ⟨r13, m14, hr13, h⟩ := bn_some h
      have q15 := P_Scene_marginOf_run hL hr13
      have c16 := (PC_25 hL).1
      have hL := q15.2
      refine ai (q_callV (pc := 36) (As := [va_rf x1, .int x2]) (st := [.int r9, .int 0, .ref 28]) (st2 := [.int r13, .int r9, .int 0, .ref 28]) (b := 25) (by simp [lv_args, vrc, vrs, cti, ctr, ctl, ctn, cta]) rfl (by decide +kernel : decode k_P_Reckoning_worthBy.2.1 36 = .ok (.invokevirtual 268, 3)) lc_8_268 mo_P_Scene_marginOf ⟨Nat.le_of_ble_eq_true rfl, Nat.le_of_ble_eq_true rfl⟩ (by simp [lg_sl, vrc, vrs, cti, ctr, ctl, ctn, cta, k_P_Scene_marginOf]) (Nat.le_of_ble_eq_true rfl) c16 q15.1) ?_
      refine ai (r_iadd (pc := 39) (by decide +kernel : decode k_P_Reckoning_worthBy.2.1 39 = .ok (.iadd, 1))) ?_
      refine ai (r_mmax (pc := 40) (by decide +kernel : decode k_P_Reckoning_worthBy.2.1 40 = .ok (.invokestatic 145, 3)) lm_8_145 lm_mmax_st lm_math lm_mmax_cd ⟨by decide, by decide⟩ (Nat.le_of_ble_eq_true rfl)) ?_
      have c17 := (PC_28 hL).1
      obtain ⟨m18, hm18, h⟩ := vb_some h
      have hL : PL m18 := by rw [hm18]; exact hL
      refine ai (p_putI (pc := 43) hm18 (by decide +kernel : decode k_P_Reckoning_worthBy.2.1 43 = .ok (.putfield 282, 3)) lp_8_282 c17) ?_
      refine ai (p_aload_n (pc := 46) (k := 0) (by decide +kernel : decode k_P_Reckoning_worthBy.2.1 46 = .ok (.aload_n 0, 1)) rfl rfl) ?_
      refine ai (p_getr (pc := 47) (PR_1040_28 hL) (by decide +kernel : decode k_P_Reckoning_worthBy.2.1 47 = .ok (.getfield 48, 3)) lg_8_48 (PC_28 hL).1) ?_
      refine ai (r_bipush (pc := 50) (by decide +kernel : decode k_P_Reckoning_worthBy.2.1 50 = .ok (.bipush (11), 2)) (by decide : _ = (11 : Int32))) ?_
      refine ai (p_aload_n (pc := 52) (k := 0) (by decide +kernel : decode k_P_Reckoning_worthBy.2.1 52 = .ok (.aload_n 0, 1)) rfl rfl) ?_
      refine ai (r_getI (pc := 53) (by decide +kernel : decode k_P_Reckoning_worthBy.2.1 53 = .ok (.getfield 282, 3)) lg_8_282 (by decide) (PC_28 hL).1) ?_
      obtain ⟨g19, h⟩ := gd_some h
      have c20 := (PC_39 hL).1
      have c21 := (PC_39 hL).2
      obtain ⟨m22, hm22, h⟩ := vb_some h
      have hL : PL m22 := by rw [hm22]; exact hL
      refine ai (p_iast (pc := 56) hm22 (by decide +kernel : decode k_P_Reckoning_worthBy.2.1 56 = .ok (.iastore, 1)) c20 c21 g19) ?_
      refine ai (r_bipush (pc := 57) (by decide +kernel : decode k_P_Reckoning_worthBy.2.1 57 = .ok (.bipush (100), 2)) (by decide : _ = (100 : Int32))) ?_
      refine ai (e_istore (pc := 59) rfl (by decide +kernel : decode k_P_Reckoning_worthBy.2.1 59 = .ok (.istore 4, 2)) (by decide) rfl (ls2 := [(4, .int 100), (0, .ref 28), (1, va_rf x1), (2, .int x2), (3, .int x3)]) (i := 4)) ?_
      refine ai (r_iconst (pc := 61) (by decide +kernel : decode k_P_Reckoning_worthBy.2.1 61 = .ok (.iconst 0, 1)) ic_0) ?_
      refine ai (e_istore (pc := 62) rfl (by decide +kernel : decode k_P_Reckoning_worthBy.2.1 62 = .ok (.istore 5, 2)) (by decide) rfl (ls2 := [(5, .int 0), (4, .int 100), (0, .ref 28), (1, va_rf x1), (2, .int x2), (3, .int x3)]) (i := 5)) ?_
      refine ai (r_lconst (pc := 64) (x := 0) (by decide +kernel : decode k_P_Reckoning_worthBy.2.1 64 = .ok (.lconst 0, 1)) (by decide)) ?_
      refine ai (e_lstore (pc := 65) rfl (by decide +kernel : decode k_P_Reckoning_worthBy.2.1 65 = .ok (.lstore 6, 2)) (by decide) rfl (ls2 := [(6, .long 0), (5, .int 0), (4, .int 100), (0, .ref 28), (1, va_rf x1), (2, .int x2), (3, .int x3)]) (i := 6)) ?_
      refine ai (r_iconst (pc := 67) (by decide +kernel : decode k_P_Reckoning_worthBy.2.1 67 = .ok (.iconst 0, 1)) ic_0) ?_
      refine ai (e_istore (pc := 68) rfl (by decide +kernel : decode k_P_Reckoning_worthBy.2.1 68 = .ok (.istore 8, 2)) (by decide) rfl (ls2 := [(8, .int 0), (6, .long 0), (5, .int 0), (4, .int 100), (0, .ref 28), (1, va_rf x1), (2, .int x2), (3, .int x3)]) (i := 8)) ?_
      exact (ai (r_sub [4, 5, 3, 2, 1, 0] rfl) (P_Reckoning_worthBy_70_run hL h))
set_option maxRecDepth 100000 in
set_option maxHeartbeats 4000000 in
theorem P_Reckoning_findPayer_81_run {s0 : Option Nat} {s1 : Int32} {m m' : Mem} {r : Unit} (hL : PL m) (h : P_Reckoning_findPayer_81 s0 s1 m = some (r, m')) : Run k_P_Reckoning_findPayer 81 [] [va_rf s0, .int s1, .ref 37] m none m' ∧ PL m' := by
  unfold P_Reckoning_findPayer_81 at h
  obtain ⟨g1, h⟩ := gd_some h
  obtain ⟨g2, h⟩ := go_some h
  have c3 := (PC_37 hL).1
  have c4 := (PC_37 hL).2
  obtain ⟨m5, hm5, h⟩ := vb_some h
  have hL : PL m5 := by rw [hm5]; exact hL
  refine ai (p_aast (pc := 81) (j := 1) (by decide) hm5 (by decide +kernel : decode k_P_Reckoning_findPayer.2.1 81 = .ok (.aastore, 1)) c3 c4 g1 g2) ?_
  cases h
  exact ⟨r_vret rfl (by decide +kernel : decode k_P_Reckoning_findPayer.2.1 82 = .ok (.return_, 1)), hL⟩
set_option maxRecDepth 100000 in
set_option maxHeartbeats 4000000 in
theorem P_Reckoning_findPayer_run {x1 : Int32} {m m' : Mem} {r : Unit} (hL : PL m) (h : P_Reckoning_findPayer x1 m = some (r, m')) : Run k_P_Reckoning_findPayer 0 [(0, .ref 28), (1, .int x1)] [] m none m' ∧ PL m' := by
  unfold P_Reckoning_findPayer at h
  refine ai (p_aload_n (pc := 0) (k := 0) (by decide +kernel : decode k_P_Reckoning_findPayer.2.1 0 = .ok (.aload_n 0, 1)) rfl rfl) ?_
  refine ai (p_aload_n (pc := 1) (k := 0) (by decide +kernel : decode k_P_Reckoning_findPayer.2.1 1 = .ok (.aload_n 0, 1)) rfl rfl) ?_
  refine ai (p_getr (pc := 2) (PR_1034_28 hL) (by decide +kernel : decode k_P_Reckoning_findPayer.2.1 2 = .ok (.getfield 29, 3)) lg_8_29 (PC_28 hL).1) ?_
  refine ai (r_iload_n (pc := 5) (k := 1) (by decide +kernel : decode k_P_Reckoning_findPayer.2.1 5 = .ok (.iload_n 1, 1)) rfl rfl) ?_
  obtain ⟨g1, h⟩ := gd_some h
  refine ai (p_aald (pc := 6) (j := 1) (by decide) (by decide +kernel : decode k_P_Reckoning_findPayer.2.1 6 = .ok (.aaload, 1)) (PC_33 hL).1 (PC_33 hL).2 g1) ?_
  refine ai (p_aload_n (pc := 7) (k := 0) (by decide +kernel : decode k_P_Reckoning_findPayer.2.1 7 = .ok (.aload_n 0, 1)) rfl rfl) ?_
  refine ai (p_getr (pc := 8) (PR_1035_28 hL) (by decide +kernel : decode k_P_Reckoning_findPayer.2.1 8 = .ok (.getfield 33, 3)) lg_8_33 (PC_28 hL).1) ?_
  refine ai (r_iload_n (pc := 11) (k := 1) (by decide +kernel : decode k_P_Reckoning_findPayer.2.1 11 = .ok (.iload_n 1, 1)) rfl rfl) ?_
  obtain ⟨g2, h⟩ := gd_some h
  refine ai (p_iald (pc := 12) (by decide +kernel : decode k_P_Reckoning_findPayer.2.1 12 = .ok (.iaload, 1)) (PC_34 hL).1 (PC_34 hL).2 g2) ?_
  refine ai (r_iload_n (pc := 13) (k := 1) (by decide +kernel : decode k_P_Reckoning_findPayer.2.1 13 = .ok (.iload_n 1, 1)) rfl rfl) ?_
  obtain ⟨r3, m4, hr3, h⟩ := bn_some h
  have q5 := P_Reckoning_worthBy_run hL hr3
  have c6 := (PC_28 hL).1
  have hL := q5.2
  refine ai (q_callV (pc := 14) (As := [va_rf (aR m 33 (ix x1)), .int (aI m 34 (ix x1)), .int x1]) (st := []) (st2 := [.int r3]) (b := 28) (by simp [lv_args, vrc, vrs, cti, ctr, ctl, ctn, cta]) rfl (by decide +kernel : decode k_P_Reckoning_findPayer.2.1 14 = .ok (.invokevirtual 272, 3)) lc_8_272 mo_P_Reckoning_worthBy ⟨Nat.le_of_ble_eq_true rfl, Nat.le_of_ble_eq_true rfl⟩ (by simp [lg_sl, vrc, vrs, cti, ctr, ctl, ctn, cta, k_P_Reckoning_worthBy]) (Nat.le_of_ble_eq_true rfl) c6 q5.1) ?_
  refine ai (e_istore_n (pc := 17) rfl (by decide +kernel : decode k_P_Reckoning_findPayer.2.1 17 = .ok (.istore_n 2, 1)) rfl (by decide) rfl (ls2 := [(2, .int r3), (0, .ref 28), (1, .int x1)]) (i := 2)) ?_
  refine ai (p_aload_n (pc := 18) (k := 1) (by decide +kernel : decode k_P_Reckoning_findPayer.2.1 18 = .ok (.aload_n 0, 1)) rfl rfl) ?_
  refine ai (p_aload_n (pc := 19) (k := 1) (by decide +kernel : decode k_P_Reckoning_findPayer.2.1 19 = .ok (.aload_n 0, 1)) rfl rfl) ?_
  refine ai (p_getr (pc := 20) (PR_1036_28 hL) (by decide +kernel : decode k_P_Reckoning_findPayer.2.1 20 = .ok (.getfield 36, 3)) lg_8_36 (PC_28 hL).1) ?_
  refine ai (r_iload_n (pc := 23) (k := 2) (by decide +kernel : decode k_P_Reckoning_findPayer.2.1 23 = .ok (.iload_n 1, 1)) rfl rfl) ?_
  obtain ⟨g7, h⟩ := gd_some h
  refine ai (p_aald (pc := 24) (j := 1) (by decide) (by decide +kernel : decode k_P_Reckoning_findPayer.2.1 24 = .ok (.aaload, 1)) (PC_35 hL).1 (PC_35 hL).2 g7) ?_
  refine ai (p_aload_n (pc := 25) (k := 1) (by decide +kernel : decode k_P_Reckoning_findPayer.2.1 25 = .ok (.aload_n 0, 1)) rfl rfl) ?_
  refine ai (p_getr (pc := 26) (PR_1037_28 hL) (by decide +kernel : decode k_P_Reckoning_findPayer.2.1 26 = .ok (.getfield 39, 3)) lg_8_39 (PC_28 hL).1) ?_
  refine ai (r_iload_n (pc := 29) (k := 2) (by decide +kernel : decode k_P_Reckoning_findPayer.2.1 29 = .ok (.iload_n 1, 1)) rfl rfl) ?_
  obtain ⟨g8, h⟩ := gd_some h
  refine ai (p_iald (pc := 30) (by decide +kernel : decode k_P_Reckoning_findPayer.2.1 30 = .ok (.iaload, 1)) (PC_36 hL).1 (PC_36 hL).2 g8) ?_
  refine ai (r_iload_n (pc := 31) (k := 2) (by decide +kernel : decode k_P_Reckoning_findPayer.2.1 31 = .ok (.iload_n 1, 1)) rfl rfl) ?_
  obtain ⟨r9, m10, hr9, h⟩ := bn_some h
  have q11 := P_Reckoning_worthBy_run hL hr9
  have c12 := (PC_28 hL).1
  have hL := q11.2
  refine ai (q_callV (pc := 32) (As := [va_rf (aR m4 35 (ix x1)), .int (aI m4 36 (ix x1)), .int x1]) (st := []) (st2 := [.int r9]) (b := 28) (by simp [lv_args, vrc, vrs, cti, ctr, ctl, ctn, cta]) rfl (by decide +kernel : decode k_P_Reckoning_findPayer.2.1 32 = .ok (.invokevirtual 272, 3)) lc_8_272 mo_P_Reckoning_worthBy ⟨Nat.le_of_ble_eq_true rfl, Nat.le_of_ble_eq_true rfl⟩ (by simp [lg_sl, vrc, vrs, cti, ctr, ctl, ctn, cta, k_P_Reckoning_worthBy]) (Nat.le_of_ble_eq_true rfl) c12 q11.1) ?_
  refine ai (e_istore_n (pc := 35) rfl (by decide +kernel : decode k_P_Reckoning_findPayer.2.1 35 = .ok (.istore_n 3, 1)) rfl (by decide) rfl (ls2 := [(3, .int r9), (2, .int r3), (0, .ref 28), (1, .int x1)]) (i := 3)) ?_
  refine ai (p_aload_n (pc := 36) (k := 2) (by decide +kernel : decode k_P_Reckoning_findPayer.2.1 36 = .ok (.aload_n 0, 1)) rfl rfl) ?_
  refine ai (p_getr (pc := 37) (PR_1039_28 hL) (by decide +kernel : decode k_P_Reckoning_findPayer.2.1 37 = .ok (.getfield 45, 3)) lg_8_45 (PC_28 hL).1) ?_
  refine ai (r_iload_n (pc := 40) (k := 3) (by decide +kernel : decode k_P_Reckoning_findPayer.2.1 40 = .ok (.iload_n 1, 1)) rfl rfl) ?_
  refine ai (r_iload_n (pc := 41) (k := 1) (by decide +kernel : decode k_P_Reckoning_findPayer.2.1 41 = .ok (.iload_n 2, 1)) rfl rfl) ?_
  refine ai (r_iload_n (pc := 42) (k := 0) (by decide +kernel : decode k_P_Reckoning_findPayer.2.1 42 = .ok (.iload_n 3, 1)) rfl rfl) ?_
  refine ai (r_mmax (pc := 43) (by decide +kernel : decode k_P_Reckoning_findPayer.2.1 43 = .ok (.invokestatic 145, 3)) lm_8_145 lm_mmax_st lm_math lm_mmax_cd ⟨by decide, by decide⟩ (Nat.le_of_ble_eq_true rfl)) ?_
  obtain ⟨g13, h⟩ := gd_some h
  have c14 := (PC_38 hL).1
  have c15 := (PC_38 hL).2
  obtain ⟨m16, hm16, h⟩ := vb_some h
  have hL : PL m16 := by rw [hm16]; exact hL
  refine ai (p_iast (pc := 46) hm16 (by decide +kernel : decode k_P_Reckoning_findPayer.2.1 46 = .ok (.iastore, 1)) c14 c15 g13) ?_
  refine ai (p_aload_n (pc := 47) (k := 2) (by decide +kernel : decode k_P_Reckoning_findPayer.2.1 47 = .ok (.aload_n 0, 1)) rfl rfl) ?_
  refine ai (p_getr (pc := 48) (PR_1039_28 hL) (by decide +kernel : decode k_P_Reckoning_findPayer.2.1 48 = .ok (.getfield 45, 3)) lg_8_45 (PC_28 hL).1) ?_
  refine ai (r_iload_n (pc := 51) (k := 3) (by decide +kernel : decode k_P_Reckoning_findPayer.2.1 51 = .ok (.iload_n 1, 1)) rfl rfl) ?_
  obtain ⟨g17, h⟩ := gd_some h
  refine ai (p_iald (pc := 52) (by decide +kernel : decode k_P_Reckoning_findPayer.2.1 52 = .ok (.iaload, 1)) (PC_38 hL).1 (PC_38 hL).2 g17) ?_
  rcases ite_some h with ⟨c18, h⟩ | ⟨c18, h⟩
  · refine ai (r_if_le_t (pc := 53) (tgt := 82) (by decide +kernel : decode k_P_Reckoning_findPayer.2.1 53 = .ok (.ifCond .le (29), 3)) (by decide) c18) ?_
    cases h
    exact ⟨r_vret rfl (by decide +kernel : decode k_P_Reckoning_findPayer.2.1 82 = .ok (.return_, 1)), hL⟩
  · refine ai (r_if_le_f (pc := 53) 82 (by decide +kernel : decode k_P_Reckoning_findPayer.2.1 53 = .ok (.ifCond .le (29), 3)) (by decide) c18) ?_
    refine ai (p_aload_n (pc := 56) (k := 2) (by decide +kernel : decode k_P_Reckoning_findPayer.2.1 56 = .ok (.aload_n 0, 1)) rfl rfl) ?_
    refine ai (p_getr (pc := 57) (PR_1038_28 hL) (by decide +kernel : decode k_P_Reckoning_findPayer.2.1 57 = .ok (.getfield 42, 3)) lg_8_42 (PC_28 hL).1) ?_
    refine ai (r_iload_n (pc := 60) (k := 3) (by decide +kernel : decode k_P_Reckoning_findPayer.2.1 60 = .ok (.iload_n 1, 1)) rfl rfl) ?_
    refine ai (r_iload_n (pc := 61) (k := 0) (by decide +kernel : decode k_P_Reckoning_findPayer.2.1 61 = .ok (.iload_n 3, 1)) rfl rfl) ?_
    refine ai (r_iload_n (pc := 62) (k := 1) (by decide +kernel : decode k_P_Reckoning_findPayer.2.1 62 = .ok (.iload_n 2, 1)) rfl rfl) ?_
    rcases ite_some h with ⟨c19, h⟩ | ⟨c19, h⟩
    · refine ai (r_icmp_le_t (pc := 63) (tgt := 75) (by decide +kernel : decode k_P_Reckoning_findPayer.2.1 63 = .ok (.if_icmp .le (12), 3)) (by decide) c19) ?_
      refine ai (p_aload_n (pc := 75) (k := 2) (by decide +kernel : decode k_P_Reckoning_findPayer.2.1 75 = .ok (.aload_n 0, 1)) rfl rfl) ?_
      refine ai (p_getr (pc := 76) (PR_1034_28 hL) (by decide +kernel : decode k_P_Reckoning_findPayer.2.1 76 = .ok (.getfield 29, 3)) lg_8_29 (PC_28 hL).1) ?_
      refine ai (r_iload_n (pc := 79) (k := 3) (by decide +kernel : decode k_P_Reckoning_findPayer.2.1 79 = .ok (.iload_n 1, 1)) rfl rfl) ?_
      obtain ⟨g20, h⟩ := gd_some h
      refine ai (p_aald (pc := 80) (j := 1) (by decide) (by decide +kernel : decode k_P_Reckoning_findPayer.2.1 80 = .ok (.aaload, 1)) (PC_33 hL).1 (PC_33 hL).2 g20) ?_
      exact (ai (r_sub [] rfl) (P_Reckoning_findPayer_81_run hL h))
    · refine ai (r_icmp_le_f (pc := 63) 75 (by decide +kernel : decode k_P_Reckoning_findPayer.2.1 63 = .ok (.if_icmp .le (12), 3)) (by decide) c19) ?_
      refine ai (p_aload_n (pc := 66) (k := 2) (by decide +kernel : decode k_P_Reckoning_findPayer.2.1 66 = .ok (.aload_n 0, 1)) rfl rfl) ?_
      refine ai (p_getr (pc := 67) (PR_1036_28 hL) (by decide +kernel : decode k_P_Reckoning_findPayer.2.1 67 = .ok (.getfield 36, 3)) lg_8_36 (PC_28 hL).1) ?_
      refine ai (r_iload_n (pc := 70) (k := 3) (by decide +kernel : decode k_P_Reckoning_findPayer.2.1 70 = .ok (.iload_n 1, 1)) rfl rfl) ?_
      obtain ⟨g21, h⟩ := gd_some h
      refine ai (p_aald (pc := 71) (j := 1) (by decide) (by decide +kernel : decode k_P_Reckoning_findPayer.2.1 71 = .ok (.aaload, 1)) (PC_35 hL).1 (PC_35 hL).2 g21) ?_
      refine ai (r_goto (pc := 72) (tgt := 81) (by decide +kernel : decode k_P_Reckoning_findPayer.2.1 72 = .ok (.goto (9), 3)) (by decide)) ?_
      exact (ai (r_sub [] rfl) (P_Reckoning_findPayer_81_run hL h))
set_option maxRecDepth 100000 in
set_option maxHeartbeats 4000000 in
theorem P_Reckoning_reckon_168_run {k142 : Int32 → Mem → Option (Unit × Mem)} {x4 : Int32} {m m' : Mem} {r : Unit} (hk142 : ∀ (x4 : Int32) (m : Mem) (r : Unit) (m' : Mem), PL m → k142 x4 m = some (r, m') → Run k_P_Reckoning_reckon 142 [(0, .ref 28), (4, .int x4)] [] m none m' ∧ PL m') (hL : PL m) (h : P_Reckoning_reckon_168 k142 x4 m = some (r, m')) : Run k_P_Reckoning_reckon 168 [(0, .ref 28), (4, .int x4)] [] m none m' ∧ PL m' := by
  unfold P_Reckoning_reckon_168 at h
  obtain ⟨v1, hv1, h⟩ := vb_some h
  refine ai (e_iinc (pc := 168) (k := 1) hv1 ic_1 (by decide +kernel : decode k_P_Reckoning_reckon.2.1 168 = .ok (.iinc 4 (1), 3)) rfl (by decide) rfl (ls2 := [(4, .int v1), (0, .ref 28)]) (i := 4)) ?_
  refine ai (r_goto (pc := 171) (tgt := 142) (by decide +kernel : decode k_P_Reckoning_reckon.2.1 171 = .ok (.goto (-29), 3)) (by decide)) ?_
  exact (ai (r_sub [1, 0] rfl) (hk142 v1 m _ _ hL h))
set_option maxRecDepth 100000 in
set_option maxHeartbeats 4000000 in
theorem P_Reckoning_reckon_224_run {k201 : Int32 → Mem → Option (Unit × Mem)} {x4 : Int32} {m m' : Mem} {r : Unit} (hk201 : ∀ (x4 : Int32) (m : Mem) (r : Unit) (m' : Mem), PL m → k201 x4 m = some (r, m') → Run k_P_Reckoning_reckon 201 [(0, .ref 28), (4, .int x4)] [] m none m' ∧ PL m') (hL : PL m) (h : P_Reckoning_reckon_224 k201 x4 m = some (r, m')) : Run k_P_Reckoning_reckon 224 [(0, .ref 28), (4, .int x4)] [] m none m' ∧ PL m' := by
  unfold P_Reckoning_reckon_224 at h
  obtain ⟨v1, hv1, h⟩ := vb_some h
  refine ai (e_iinc (pc := 224) (k := 1) hv1 ic_1 (by decide +kernel : decode k_P_Reckoning_reckon.2.1 224 = .ok (.iinc 4 (1), 3)) rfl (by decide) rfl (ls2 := [(4, .int v1), (0, .ref 28)]) (i := 4)) ?_
  refine ai (r_goto (pc := 227) (tgt := 201) (by decide +kernel : decode k_P_Reckoning_reckon.2.1 227 = .ok (.goto (-26), 3)) (by decide)) ?_
  exact (ai (r_sub [1, 0] rfl) (hk201 v1 m _ _ hL h))
set_option maxRecDepth 100000 in
set_option maxHeartbeats 4000000 in
theorem P_Reckoning_reckon_201_run {n : Nat} {x4 : Int32} {m m' : Mem} {r : Unit} (hL : PL m) (h : P_Reckoning_reckon_201 n x4 m = some (r, m')) : Run k_P_Reckoning_reckon 201 [(0, .ref 28), (4, .int x4)] [] m none m' ∧ PL m' := by
  induction n generalizing x4 m r m' with
  | zero => exact absurd h (by simp [P_Reckoning_reckon_201])
  | succ n ih =>
    rw [P_Reckoning_reckon_201.eq_2] at h
    refine ai (r_iload (pc := 201) (k := 1) (by decide +kernel : decode k_P_Reckoning_reckon.2.1 201 = .ok (.iload 4, 2)) rfl) ?_
    refine ai (r_bipush (pc := 203) (by decide +kernel : decode k_P_Reckoning_reckon.2.1 203 = .ok (.bipush (48), 2)) (by decide : _ = (48 : Int32))) ?_
    rcases ite_some h with ⟨c1, h⟩ | ⟨c1, h⟩
    · refine ai (r_icmp_ge_t (pc := 205) (tgt := 230) (by decide +kernel : decode k_P_Reckoning_reckon.2.1 205 = .ok (.if_icmp .ge (25), 3)) (by decide) c1) ?_
      cases h
      exact ⟨r_vret rfl (by decide +kernel : decode k_P_Reckoning_reckon.2.1 230 = .ok (.return_, 1)), hL⟩
    · refine ai (r_icmp_ge_f (pc := 205) 230 (by decide +kernel : decode k_P_Reckoning_reckon.2.1 205 = .ok (.if_icmp .ge (25), 3)) (by decide) c1) ?_
      refine ai (p_aload_n (pc := 208) (k := 0) (by decide +kernel : decode k_P_Reckoning_reckon.2.1 208 = .ok (.aload_n 0, 1)) rfl rfl) ?_
      refine ai (p_getr (pc := 209) (PR_1034_28 hL) (by decide +kernel : decode k_P_Reckoning_reckon.2.1 209 = .ok (.getfield 29, 3)) lg_8_29 (PC_28 hL).1) ?_
      refine ai (r_iload (pc := 212) (k := 1) (by decide +kernel : decode k_P_Reckoning_reckon.2.1 212 = .ok (.iload 4, 2)) rfl) ?_
      obtain ⟨g2, h⟩ := gd_some h
      refine ai (p_aald (pc := 214) (j := 1) (by decide) (by decide +kernel : decode k_P_Reckoning_reckon.2.1 214 = .ok (.aaload, 1)) (PC_33 hL).1 (PC_33 hL).2 g2) ?_
      rcases ite_some h with ⟨c3, h⟩ | ⟨c3, h⟩
      · refine ai (d_ifnull_t (pc := 215) (tgt := 224) c3 (by decide +kernel : decode k_P_Reckoning_reckon.2.1 215 = .ok (.ifnull (9), 3)) (by decide)) ?_
        exact (P_Reckoning_reckon_224_run (fun _ _ _ _ q1 q3 => ih q1 q3) hL h)
      · refine ai (d_ifnull_f (pc := 215) c3 (by decide +kernel : decode k_P_Reckoning_reckon.2.1 215 = .ok (.ifnull (9), 3))) ?_
        refine ai (p_aload_n (pc := 218) (k := 0) (by decide +kernel : decode k_P_Reckoning_reckon.2.1 218 = .ok (.aload_n 0, 1)) rfl rfl) ?_
        refine ai (r_iload (pc := 219) (k := 1) (by decide +kernel : decode k_P_Reckoning_reckon.2.1 219 = .ok (.iload 4, 2)) rfl) ?_
        obtain ⟨r4, m5, hr4, h⟩ := bn_some h
        have q6 := P_Reckoning_findPayer_run hL hr4
        have c7 := (PC_28 hL).1
        have hL := q6.2
        refine ai (q_callV (pc := 221) (As := [.int x4]) (st := []) (st2 := []) (b := 28) rfl rfl (by decide +kernel : decode k_P_Reckoning_reckon.2.1 221 = .ok (.invokevirtual 179, 3)) lc_8_179 mo_P_Reckoning_findPayer ⟨Nat.le_of_ble_eq_true rfl, Nat.le_of_ble_eq_true rfl⟩ (Nat.le_of_ble_eq_true rfl) (Nat.le_of_ble_eq_true rfl) c7 q6.1) ?_
        exact (P_Reckoning_reckon_224_run (fun _ _ _ _ q1 q3 => ih q1 q3) hL h)
set_option maxRecDepth 100000 in
set_option maxHeartbeats 4000000 in
theorem P_Reckoning_reckon_174_run {m m' : Mem} {r : Unit} (hL : PL m) (h : P_Reckoning_reckon_174 m = some (r, m')) : Run k_P_Reckoning_reckon 174 [(0, .ref 28)] [] m none m' ∧ PL m' := by
  unfold P_Reckoning_reckon_174 at h
  refine ai (p_aload_n (pc := 174) (k := 0) (by decide +kernel : decode k_P_Reckoning_reckon.2.1 174 = .ok (.aload_n 0, 1)) rfl rfl) ?_
  refine ai (p_aload_n (pc := 175) (k := 0) (by decide +kernel : decode k_P_Reckoning_reckon.2.1 175 = .ok (.aload_n 0, 1)) rfl rfl) ?_
  refine ai (p_getr (pc := 176) (PR_1034_28 hL) (by decide +kernel : decode k_P_Reckoning_reckon.2.1 176 = .ok (.getfield 29, 3)) lg_8_29 (PC_28 hL).1) ?_
  refine ai (p_aload_n (pc := 179) (k := 0) (by decide +kernel : decode k_P_Reckoning_reckon.2.1 179 = .ok (.aload_n 0, 1)) rfl rfl) ?_
  refine ai (p_getr (pc := 180) (PR_1035_28 hL) (by decide +kernel : decode k_P_Reckoning_reckon.2.1 180 = .ok (.getfield 33, 3)) lg_8_33 (PC_28 hL).1) ?_
  obtain ⟨r1, m2, hr1, h⟩ := bn_some h
  have q3 := P_Reckoning_findClasses_run hL hr1
  have c4 := (PC_28 hL).1
  have hL := q3.2
  refine ai (q_callV (pc := 183) (As := [.ref 33, .ref 34]) (st := []) (st2 := []) (b := 28) rfl rfl (by decide +kernel : decode k_P_Reckoning_reckon.2.1 183 = .ok (.invokevirtual 175, 3)) lc_8_175 mo_P_Reckoning_findClasses ⟨Nat.le_of_ble_eq_true rfl, Nat.le_of_ble_eq_true rfl⟩ (Nat.le_of_ble_eq_true rfl) (Nat.le_of_ble_eq_true rfl) c4 q3.1) ?_
  refine ai (p_aload_n (pc := 186) (k := 0) (by decide +kernel : decode k_P_Reckoning_reckon.2.1 186 = .ok (.aload_n 0, 1)) rfl rfl) ?_
  refine ai (p_aload_n (pc := 187) (k := 0) (by decide +kernel : decode k_P_Reckoning_reckon.2.1 187 = .ok (.aload_n 0, 1)) rfl rfl) ?_
  refine ai (p_getr (pc := 188) (PR_1036_28 hL) (by decide +kernel : decode k_P_Reckoning_reckon.2.1 188 = .ok (.getfield 36, 3)) lg_8_36 (PC_28 hL).1) ?_
  refine ai (p_aload_n (pc := 191) (k := 0) (by decide +kernel : decode k_P_Reckoning_reckon.2.1 191 = .ok (.aload_n 0, 1)) rfl rfl) ?_
  refine ai (p_getr (pc := 192) (PR_1037_28 hL) (by decide +kernel : decode k_P_Reckoning_reckon.2.1 192 = .ok (.getfield 39, 3)) lg_8_39 (PC_28 hL).1) ?_
  obtain ⟨r5, m6, hr5, h⟩ := bn_some h
  have q7 := P_Reckoning_findClasses_run hL hr5
  have c8 := (PC_28 hL).1
  have hL := q7.2
  refine ai (q_callV (pc := 195) (As := [.ref 35, .ref 36]) (st := []) (st2 := []) (b := 28) rfl rfl (by decide +kernel : decode k_P_Reckoning_reckon.2.1 195 = .ok (.invokevirtual 175, 3)) lc_8_175 mo_P_Reckoning_findClasses ⟨Nat.le_of_ble_eq_true rfl, Nat.le_of_ble_eq_true rfl⟩ (Nat.le_of_ble_eq_true rfl) (Nat.le_of_ble_eq_true rfl) c8 q7.1) ?_
  refine ai (r_iconst (pc := 198) (by decide +kernel : decode k_P_Reckoning_reckon.2.1 198 = .ok (.iconst 0, 1)) ic_0) ?_
  refine ai (e_istore (pc := 199) rfl (by decide +kernel : decode k_P_Reckoning_reckon.2.1 199 = .ok (.istore 4, 2)) (by decide) rfl (ls2 := [(4, .int 0), (0, .ref 28)]) (i := 4)) ?_
  exact (ai (r_sub [1, 0] rfl) (P_Reckoning_reckon_201_run hL h))
set_option maxRecDepth 100000 in
set_option maxHeartbeats 4000000 in
theorem P_Reckoning_reckon_142_run {n : Nat} {x4 : Int32} {m m' : Mem} {r : Unit} (hL : PL m) (h : P_Reckoning_reckon_142 n x4 m = some (r, m')) : Run k_P_Reckoning_reckon 142 [(0, .ref 28), (4, .int x4)] [] m none m' ∧ PL m' := by
  induction n generalizing x4 m r m' with
  | zero => exact absurd h (by simp [P_Reckoning_reckon_142])
  | succ n ih =>
    rw [P_Reckoning_reckon_142.eq_2] at h
    refine ai (r_iload (pc := 142) (k := 1) (by decide +kernel : decode k_P_Reckoning_reckon.2.1 142 = .ok (.iload 4, 2)) rfl) ?_
    refine ai (r_bipush (pc := 144) (by decide +kernel : decode k_P_Reckoning_reckon.2.1 144 = .ok (.bipush (48), 2)) (by decide : _ = (48 : Int32))) ?_
    rcases ite_some h with ⟨c1, h⟩ | ⟨c1, h⟩
    · refine ai (r_icmp_ge_t (pc := 146) (tgt := 174) (by decide +kernel : decode k_P_Reckoning_reckon.2.1 146 = .ok (.if_icmp .ge (28), 3)) (by decide) c1) ?_
      exact (ai (r_sub [0] rfl) (P_Reckoning_reckon_174_run hL h))
    · refine ai (r_icmp_ge_f (pc := 146) 174 (by decide +kernel : decode k_P_Reckoning_reckon.2.1 146 = .ok (.if_icmp .ge (28), 3)) (by decide) c1) ?_
      refine ai (p_aload_n (pc := 149) (k := 0) (by decide +kernel : decode k_P_Reckoning_reckon.2.1 149 = .ok (.aload_n 0, 1)) rfl rfl) ?_
      refine ai (p_getr (pc := 150) (PR_1030_28 hL) (by decide +kernel : decode k_P_Reckoning_reckon.2.1 150 = .ok (.getfield 17, 3)) lg_8_17 (PC_28 hL).1) ?_
      refine ai (r_iload (pc := 153) (k := 1) (by decide +kernel : decode k_P_Reckoning_reckon.2.1 153 = .ok (.iload 4, 2)) rfl) ?_
      obtain ⟨g2, h⟩ := gd_some h
      refine ai (p_iald (pc := 155) (by decide +kernel : decode k_P_Reckoning_reckon.2.1 155 = .ok (.iaload, 1)) (PC_30 hL).1 (PC_30 hL).2 g2) ?_
      obtain ⟨r3, hr3, h⟩ := bp_some h
      refine ai (q_callSN (pc := 156) (As := [.int (aI m 30 (ix x4))]) (st := []) (st2 := [.int r3]) rfl rfl (by decide +kernel : decode k_P_Reckoning_reckon.2.1 156 = .ok (.invokestatic 89, 3)) lc_8_89 mo_P_isTask ⟨Nat.le_of_ble_eq_true rfl, Nat.le_of_ble_eq_true rfl⟩ (Nat.le_of_ble_eq_true rfl) (Nat.le_of_ble_eq_true rfl) (P_isTask_run hr3)) ?_
      rcases ite_some h with ⟨c4, h⟩ | ⟨c4, h⟩
      · refine ai (r_if_eq_t (pc := 159) (tgt := 168) (by decide +kernel : decode k_P_Reckoning_reckon.2.1 159 = .ok (.ifCond .eq (9), 3)) (by decide) c4) ?_
        exact (P_Reckoning_reckon_168_run (fun _ _ _ _ q1 q3 => ih q1 q3) hL h)
      · refine ai (r_if_eq_f (pc := 159) 168 (by decide +kernel : decode k_P_Reckoning_reckon.2.1 159 = .ok (.ifCond .eq (9), 3)) (by decide) c4) ?_
        refine ai (p_aload_n (pc := 162) (k := 0) (by decide +kernel : decode k_P_Reckoning_reckon.2.1 162 = .ok (.aload_n 0, 1)) rfl rfl) ?_
        refine ai (r_iload (pc := 163) (k := 1) (by decide +kernel : decode k_P_Reckoning_reckon.2.1 163 = .ok (.iload 4, 2)) rfl) ?_
        obtain ⟨r5, m6, hr5, h⟩ := bn_some h
        have q7 := P_Reckoning_bind_run hL hr5
        have c8 := (PC_28 hL).1
        have hL := q7.2
        refine ai (q_callV (pc := 165) (As := [.int x4]) (st := []) (st2 := []) (b := 28) rfl rfl (by decide +kernel : decode k_P_Reckoning_reckon.2.1 165 = .ok (.invokevirtual 172, 3)) lc_8_172 mo_P_Reckoning_bind ⟨Nat.le_of_ble_eq_true rfl, Nat.le_of_ble_eq_true rfl⟩ (Nat.le_of_ble_eq_true rfl) (Nat.le_of_ble_eq_true rfl) c8 q7.1) ?_
        exact (P_Reckoning_reckon_168_run (fun _ _ _ _ q1 q3 => ih q1 q3) hL h)
set_option maxRecDepth 100000 in
set_option maxHeartbeats 4000000 in
theorem P_Reckoning_reckon_32_run {x1 : Int32} {m m' : Mem} {r : Unit} (hL : PL m) (h : P_Reckoning_reckon_32 x1 m = some (r, m')) : Run k_P_Reckoning_reckon 32 [(0, .ref 28), (1, .int x1)] [] m none m' ∧ PL m' := by
  unfold P_Reckoning_reckon_32 at h
  refine ai (p_aload_n (pc := 32) (k := 0) (by decide +kernel : decode k_P_Reckoning_reckon.2.1 32 = .ok (.aload_n 0, 1)) rfl rfl) ?_
  refine ai (r_iload_n (pc := 33) (k := 1) (by decide +kernel : decode k_P_Reckoning_reckon.2.1 33 = .ok (.iload_n 1, 1)) rfl rfl) ?_
  obtain ⟨r1, m2, hr1, h⟩ := bn_some h
  have q3 := P_Reckoning_takeTasks_run hL hr1
  have c4 := (PC_28 hL).1
  have hL := q3.2
  refine ai (q_callV (pc := 34) (As := [.int x1]) (st := []) (st2 := []) (b := 28) rfl rfl (by decide +kernel : decode k_P_Reckoning_reckon.2.1 34 = .ok (.invokevirtual 158, 3)) lc_8_158 mo_P_Reckoning_takeTasks ⟨Nat.le_of_ble_eq_true rfl, Nat.le_of_ble_eq_true rfl⟩ (Nat.le_of_ble_eq_true rfl) (Nat.le_of_ble_eq_true rfl) c4 q3.1) ?_
  refine ai (p_aload_n (pc := 37) (k := 0) (by decide +kernel : decode k_P_Reckoning_reckon.2.1 37 = .ok (.aload_n 0, 1)) rfl rfl) ?_
  refine ai (r_iload_n (pc := 38) (k := 1) (by decide +kernel : decode k_P_Reckoning_reckon.2.1 38 = .ok (.iload_n 1, 1)) rfl rfl) ?_
  obtain ⟨r5, m6, hr5, h⟩ := bn_some h
  have q7 := P_Reckoning_tasksOn_run hL hr5
  have c8 := (PC_28 hL).1
  have hL := q7.2
  refine ai (q_callV (pc := 39) (As := [.int x1]) (st := []) (st2 := [.int r5]) (b := 28) rfl rfl (by decide +kernel : decode k_P_Reckoning_reckon.2.1 39 = .ok (.invokevirtual 107, 3)) lc_8_107 mo_P_Reckoning_tasksOn ⟨Nat.le_of_ble_eq_true rfl, Nat.le_of_ble_eq_true rfl⟩ (Nat.le_of_ble_eq_true rfl) (Nat.le_of_ble_eq_true rfl) c8 q7.1) ?_
  rcases ite_some h with ⟨c9, h⟩ | ⟨c9, h⟩
  · refine ai (r_if_ne_f (pc := 42) 46 (by decide +kernel : decode k_P_Reckoning_reckon.2.1 42 = .ok (.ifCond .ne (4), 3)) (by decide) c9) ?_
    cases h
    exact ⟨r_vret rfl (by decide +kernel : decode k_P_Reckoning_reckon.2.1 45 = .ok (.return_, 1)), hL⟩
  · refine ai (r_if_ne_t (pc := 42) (tgt := 46) (by decide +kernel : decode k_P_Reckoning_reckon.2.1 42 = .ok (.ifCond .ne (4), 3)) (by decide) c9) ?_
    refine ai (p_aload_n (pc := 46) (k := 0) (by decide +kernel : decode k_P_Reckoning_reckon.2.1 46 = .ok (.aload_n 0, 1)) rfl rfl) ?_
    refine ai (p_getr (pc := 47) (PR_1025_28 hL) (by decide +kernel : decode k_P_Reckoning_reckon.2.1 47 = .ok (.getfield 58, 3)) lg_8_58 (PC_28 hL).1) ?_
    refine ai (p_getr (pc := 50) (PR_1152_25 hL) (by decide +kernel : decode k_P_Reckoning_reckon.2.1 50 = .ok (.getfield 122, 3)) lg_8_122 (PC_25 hL).1) ?_
    refine ai (p_getr (pc := 53) (PR_389_5 hL) (by decide +kernel : decode k_P_Reckoning_reckon.2.1 53 = .ok (.getfield 128, 3)) lg_8_128 (PC_5 hL).1) ?_
    refine ai (p_aload_n (pc := 56) (k := 0) (by decide +kernel : decode k_P_Reckoning_reckon.2.1 56 = .ok (.aload_n 0, 1)) rfl rfl) ?_
    refine ai (r_getI (pc := 57) (by decide +kernel : decode k_P_Reckoning_reckon.2.1 57 = .ok (.getfield 62, 3)) lg_8_62 (by decide) (PC_28 hL).1) ?_
    obtain ⟨g10, h⟩ := gd_some h
    refine ai (p_iald (pc := 60) (by decide +kernel : decode k_P_Reckoning_reckon.2.1 60 = .ok (.iaload, 1)) (PC_8 hL).1 (PC_8 hL).2 g10) ?_
    obtain ⟨v11, hv11, h⟩ := vb_some h
    refine ai (e_istore_n (pc := 61) hv11 (by decide +kernel : decode k_P_Reckoning_reckon.2.1 61 = .ok (.istore_n 2, 1)) rfl (by decide) rfl (ls2 := [(2, .int v11), (0, .ref 28), (1, .int x1)]) (i := 2)) ?_
    refine ai (p_aload_n (pc := 62) (k := 1) (by decide +kernel : decode k_P_Reckoning_reckon.2.1 62 = .ok (.aload_n 0, 1)) rfl rfl) ?_
    refine ai (r_getI (pc := 63) (by decide +kernel : decode k_P_Reckoning_reckon.2.1 63 = .ok (.getfield 66, 3)) lg_8_66 (by decide) (PC_28 hL).1) ?_
    refine ai (r_bipush (pc := 66) (by decide +kernel : decode k_P_Reckoning_reckon.2.1 66 = .ok (.bipush (7), 2)) (by decide : _ = (7 : Int32))) ?_
    refine ai (r_imul (pc := 68) (by decide +kernel : decode k_P_Reckoning_reckon.2.1 68 = .ok (.imul, 1))) ?_
    refine ai (r_iload_n (pc := 69) (k := 2) (by decide +kernel : decode k_P_Reckoning_reckon.2.1 69 = .ok (.iload_n 1, 1)) rfl rfl) ?_
    refine ai (r_iadd (pc := 70) (by decide +kernel : decode k_P_Reckoning_reckon.2.1 70 = .ok (.iadd, 1))) ?_
    obtain ⟨v12, hv12, h⟩ := vb_some h
    refine ai (e_istore_n (pc := 71) hv12 (by decide +kernel : decode k_P_Reckoning_reckon.2.1 71 = .ok (.istore_n 3, 1)) rfl (by decide) rfl (ls2 := [(3, .int v12), (2, .int v11), (0, .ref 28), (1, .int x1)]) (i := 3)) ?_
    refine ai (p_aload_n (pc := 72) (k := 2) (by decide +kernel : decode k_P_Reckoning_reckon.2.1 72 = .ok (.aload_n 0, 1)) rfl rfl) ?_
    refine ai (p_getr (pc := 73) (PR_1025_28 hL) (by decide +kernel : decode k_P_Reckoning_reckon.2.1 73 = .ok (.getfield 58, 3)) lg_8_58 (PC_28 hL).1) ?_
    refine ai (r_iload_n (pc := 76) (k := 1) (by decide +kernel : decode k_P_Reckoning_reckon.2.1 76 = .ok (.iload_n 2, 1)) rfl rfl) ?_
    refine ai (r_iload_n (pc := 77) (k := 0) (by decide +kernel : decode k_P_Reckoning_reckon.2.1 77 = .ok (.iload_n 3, 1)) rfl rfl) ?_
    refine ai (p_aload_n (pc := 78) (k := 2) (by decide +kernel : decode k_P_Reckoning_reckon.2.1 78 = .ok (.aload_n 0, 1)) rfl rfl) ?_
    refine ai (r_getI (pc := 79) (by decide +kernel : decode k_P_Reckoning_reckon.2.1 79 = .ok (.getfield 69, 3)) lg_8_69 (by decide) (PC_28 hL).1) ?_
    refine ai (p_aload_n (pc := 82) (k := 2) (by decide +kernel : decode k_P_Reckoning_reckon.2.1 82 = .ok (.aload_n 0, 1)) rfl rfl) ?_
    refine ai (p_getr (pc := 83) (PR_1025_28 hL) (by decide +kernel : decode k_P_Reckoning_reckon.2.1 83 = .ok (.getfield 58, 3)) lg_8_58 (PC_28 hL).1) ?_
    refine ai (p_getr (pc := 86) (PR_1152_25 hL) (by decide +kernel : decode k_P_Reckoning_reckon.2.1 86 = .ok (.getfield 122, 3)) lg_8_122 (PC_25 hL).1) ?_
    refine ai (p_getr (pc := 89) (PR_391_5 hL) (by decide +kernel : decode k_P_Reckoning_reckon.2.1 89 = .ok (.getfield 161, 3)) lg_8_161 (PC_5 hL).1) ?_
    refine ai (p_aload_n (pc := 92) (k := 2) (by decide +kernel : decode k_P_Reckoning_reckon.2.1 92 = .ok (.aload_n 0, 1)) rfl rfl) ?_
    refine ai (r_getI (pc := 93) (by decide +kernel : decode k_P_Reckoning_reckon.2.1 93 = .ok (.getfield 62, 3)) lg_8_62 (by decide) (PC_28 hL).1) ?_
    obtain ⟨g13, h⟩ := gd_some h
    refine ai (p_iald (pc := 96) (by decide +kernel : decode k_P_Reckoning_reckon.2.1 96 = .ok (.iaload, 1)) (PC_10 hL).1 (PC_10 hL).2 g13) ?_
    obtain ⟨r14, m15, hr14, h⟩ := bn_some h
    have q16 := P_Scene_open_run hL hr14
    have c17 := (PC_25 hL).1
    have hL := q16.2
    refine ai (q_callV (pc := 97) (As := [.int v11, .int v12, .int (mI m6 1028 28), .int (aI m6 10 (ix (mI m6 1026 28)))]) (st := []) (st2 := []) (b := 25) rfl rfl (by decide +kernel : decode k_P_Reckoning_reckon.2.1 97 = .ok (.invokevirtual 133, 3)) lc_8_133 mo_P_Scene_open ⟨Nat.le_of_ble_eq_true rfl, Nat.le_of_ble_eq_true rfl⟩ (Nat.le_of_ble_eq_true rfl) (Nat.le_of_ble_eq_true rfl) c17 q16.1) ?_
    refine ai (p_aload_n (pc := 100) (k := 2) (by decide +kernel : decode k_P_Reckoning_reckon.2.1 100 = .ok (.aload_n 0, 1)) rfl rfl) ?_
    refine ai (p_getr (pc := 101) (PR_1025_28 hL) (by decide +kernel : decode k_P_Reckoning_reckon.2.1 101 = .ok (.getfield 58, 3)) lg_8_58 (PC_28 hL).1) ?_
    refine ai (p_aload_n (pc := 104) (k := 2) (by decide +kernel : decode k_P_Reckoning_reckon.2.1 104 = .ok (.aload_n 0, 1)) rfl rfl) ?_
    refine ai (p_getr (pc := 105) (PR_1040_28 hL) (by decide +kernel : decode k_P_Reckoning_reckon.2.1 105 = .ok (.getfield 48, 3)) lg_8_48 (PC_28 hL).1) ?_
    obtain ⟨r18, m19, hr18, h⟩ := bn_some h
    have q20 := P_Scene_copyVars_run hL hr18
    have c21 := (PC_25 hL).1
    have hL := q20.2
    refine ai (q_callV (pc := 108) (As := [.ref 39]) (st := []) (st2 := []) (b := 25) rfl rfl (by decide +kernel : decode k_P_Reckoning_reckon.2.1 108 = .ok (.invokevirtual 164, 3)) lc_8_164 mo_P_Scene_copyVars ⟨Nat.le_of_ble_eq_true rfl, Nat.le_of_ble_eq_true rfl⟩ (Nat.le_of_ble_eq_true rfl) (Nat.le_of_ble_eq_true rfl) c21 q20.1) ?_
    refine ai (p_aload_n (pc := 111) (k := 2) (by decide +kernel : decode k_P_Reckoning_reckon.2.1 111 = .ok (.aload_n 0, 1)) rfl rfl) ?_
    refine ai (p_getr (pc := 112) (PR_1040_28 hL) (by decide +kernel : decode k_P_Reckoning_reckon.2.1 112 = .ok (.getfield 48, 3)) lg_8_48 (PC_28 hL).1) ?_
    refine ai (r_bipush (pc := 115) (by decide +kernel : decode k_P_Reckoning_reckon.2.1 115 = .ok (.bipush (6), 2)) (by decide : _ = (6 : Int32))) ?_
    refine ai (r_iload_n (pc := 117) (k := 3) (by decide +kernel : decode k_P_Reckoning_reckon.2.1 117 = .ok (.iload_n 1, 1)) rfl rfl) ?_
    obtain ⟨g22, h⟩ := gd_some h
    have c23 := (PC_39 hL).1
    have c24 := (PC_39 hL).2
    obtain ⟨m25, hm25, h⟩ := vb_some h
    have hL : PL m25 := by rw [hm25]; exact hL
    refine ai (p_iast (pc := 118) hm25 (by decide +kernel : decode k_P_Reckoning_reckon.2.1 118 = .ok (.iastore, 1)) c23 c24 g22) ?_
    refine ai (p_aload_n (pc := 119) (k := 2) (by decide +kernel : decode k_P_Reckoning_reckon.2.1 119 = .ok (.aload_n 0, 1)) rfl rfl) ?_
    refine ai (p_getr (pc := 120) (PR_1040_28 hL) (by decide +kernel : decode k_P_Reckoning_reckon.2.1 120 = .ok (.getfield 48, 3)) lg_8_48 (PC_28 hL).1) ?_
    refine ai (r_bipush (pc := 123) (by decide +kernel : decode k_P_Reckoning_reckon.2.1 123 = .ok (.bipush (10), 2)) (by decide : _ = (10 : Int32))) ?_
    refine ai (p_aload_n (pc := 125) (k := 2) (by decide +kernel : decode k_P_Reckoning_reckon.2.1 125 = .ok (.aload_n 0, 1)) rfl rfl) ?_
    refine ai (p_getr (pc := 126) (PR_1024_28 hL) (by decide +kernel : decode k_P_Reckoning_reckon.2.1 126 = .ok (.getfield 54, 3)) lg_8_54 (PC_28 hL).1) ?_
    refine ai (r_iload_n (pc := 129) (k := 1) (by decide +kernel : decode k_P_Reckoning_reckon.2.1 129 = .ok (.iload_n 2, 1)) rfl rfl) ?_
    refine ai (r_iload_n (pc := 130) (k := 0) (by decide +kernel : decode k_P_Reckoning_reckon.2.1 130 = .ok (.iload_n 3, 1)) rfl rfl) ?_
    refine ai (p_aload_n (pc := 131) (k := 2) (by decide +kernel : decode k_P_Reckoning_reckon.2.1 131 = .ok (.aload_n 0, 1)) rfl rfl) ?_
    refine ai (r_getI (pc := 132) (by decide +kernel : decode k_P_Reckoning_reckon.2.1 132 = .ok (.getfield 69, 3)) lg_8_69 (by decide) (PC_28 hL).1) ?_
    obtain ⟨r26, m27, hr26, h⟩ := bn_some h
    have q28 := P_Ledger_lastWet_run hL hr26
    have c29 := (PC_13 hL).1
    have hL := q28.2
    refine ai (q_callV (pc := 135) (As := [.int v11, .int v12, .int (mI m25 1028 28)]) (st := [.int 10, .ref 39]) (st2 := [.int r26, .int 10, .ref 39]) (b := 13) rfl rfl (by decide +kernel : decode k_P_Reckoning_reckon.2.1 135 = .ok (.invokevirtual 168, 3)) lc_8_168 mo_P_Ledger_lastWet ⟨Nat.le_of_ble_eq_true rfl, Nat.le_of_ble_eq_true rfl⟩ (Nat.le_of_ble_eq_true rfl) (Nat.le_of_ble_eq_true rfl) c29 q28.1) ?_
    obtain ⟨g30, h⟩ := gd_some h
    have c31 := (PC_39 hL).1
    have c32 := (PC_39 hL).2
    obtain ⟨m33, hm33, h⟩ := vb_some h
    have hL : PL m33 := by rw [hm33]; exact hL
    refine ai (p_iast (pc := 138) hm33 (by decide +kernel : decode k_P_Reckoning_reckon.2.1 138 = .ok (.iastore, 1)) c31 c32 g30) ?_
    refine ai (r_iconst (pc := 139) (by decide +kernel : decode k_P_Reckoning_reckon.2.1 139 = .ok (.iconst 0, 1)) ic_0) ?_
    refine ai (e_istore (pc := 140) rfl (by decide +kernel : decode k_P_Reckoning_reckon.2.1 140 = .ok (.istore 4, 2)) (by decide) rfl (ls2 := [(4, .int 0), (3, .int v12), (2, .int v11), (0, .ref 28), (1, .int x1)]) (i := 4)) ?_
    exact (ai (r_sub [3, 0] rfl) (P_Reckoning_reckon_142_run hL h))
set_option maxRecDepth 100000 in
set_option maxHeartbeats 4000000 in
theorem P_Reckoning_reckon_7_run {n : Nat} {x1 : Int32} {x2 : Int32} {m m' : Mem} {r : Unit} (hL : PL m) (h : P_Reckoning_reckon_7 n x1 x2 m = some (r, m')) : Run k_P_Reckoning_reckon 7 [(0, .ref 28), (1, .int x1), (2, .int x2)] [] m none m' ∧ PL m' := by
  induction n generalizing x1 x2 m r m' with
  | zero => exact absurd h (by simp [P_Reckoning_reckon_7])
  | succ n ih =>
    rw [P_Reckoning_reckon_7.eq_2] at h
    refine ai (r_iload_n (pc := 7) (k := 2) (by decide +kernel : decode k_P_Reckoning_reckon.2.1 7 = .ok (.iload_n 2, 1)) rfl rfl) ?_
    refine ai (r_iload_n (pc := 8) (k := 1) (by decide +kernel : decode k_P_Reckoning_reckon.2.1 8 = .ok (.iload_n 1, 1)) rfl rfl) ?_
    rcases ite_some h with ⟨c1, h⟩ | ⟨c1, h⟩
    · refine ai (r_icmp_ge_t (pc := 9) (tgt := 32) (by decide +kernel : decode k_P_Reckoning_reckon.2.1 9 = .ok (.if_icmp .ge (23), 3)) (by decide) c1) ?_
      exact (ai (r_sub [0, 1] rfl) (P_Reckoning_reckon_32_run hL h))
    · refine ai (r_icmp_ge_f (pc := 9) 32 (by decide +kernel : decode k_P_Reckoning_reckon.2.1 9 = .ok (.if_icmp .ge (23), 3)) (by decide) c1) ?_
      refine ai (p_aload_n (pc := 12) (k := 0) (by decide +kernel : decode k_P_Reckoning_reckon.2.1 12 = .ok (.aload_n 0, 1)) rfl rfl) ?_
      refine ai (r_dup (pc := 13) (by decide +kernel : decode k_P_Reckoning_reckon.2.1 13 = .ok (.dup, 1)) (rfl)) ?_
      refine ai (r_getI (pc := 14) (by decide +kernel : decode k_P_Reckoning_reckon.2.1 14 = .ok (.getfield 155, 3)) lg_8_155 (by decide) (PC_28 hL).1) ?_
      refine ai (p_aload_n (pc := 17) (k := 0) (by decide +kernel : decode k_P_Reckoning_reckon.2.1 17 = .ok (.aload_n 0, 1)) rfl rfl) ?_
      refine ai (r_iload_n (pc := 18) (k := 2) (by decide +kernel : decode k_P_Reckoning_reckon.2.1 18 = .ok (.iload_n 2, 1)) rfl rfl) ?_
      obtain ⟨r2, m3, hr2, h⟩ := bn_some h
      have q4 := P_Reckoning_tasksOn_run hL hr2
      have c5 := (PC_28 hL).1
      have hL := q4.2
      refine ai (q_callV (pc := 19) (As := [.int x2]) (st := [.int (mI m 1032 28), .ref 28]) (st2 := [.int r2, .int (mI m 1032 28), .ref 28]) (b := 28) rfl rfl (by decide +kernel : decode k_P_Reckoning_reckon.2.1 19 = .ok (.invokevirtual 107, 3)) lc_8_107 mo_P_Reckoning_tasksOn ⟨Nat.le_of_ble_eq_true rfl, Nat.le_of_ble_eq_true rfl⟩ (Nat.le_of_ble_eq_true rfl) (Nat.le_of_ble_eq_true rfl) c5 q4.1) ?_
      refine ai (r_iadd (pc := 22) (by decide +kernel : decode k_P_Reckoning_reckon.2.1 22 = .ok (.iadd, 1))) ?_
      have c6 := (PC_28 hL).1
      obtain ⟨m7, hm7, h⟩ := vb_some h
      have hL : PL m7 := by rw [hm7]; exact hL
      refine ai (p_putI (pc := 23) hm7 (by decide +kernel : decode k_P_Reckoning_reckon.2.1 23 = .ok (.putfield 155, 3)) lp_8_155 c6) ?_
      obtain ⟨v8, hv8, h⟩ := vb_some h
      refine ai (e_iinc (pc := 26) (k := 2) hv8 ic_1 (by decide +kernel : decode k_P_Reckoning_reckon.2.1 26 = .ok (.iinc 2 (1), 3)) rfl (by decide) rfl (ls2 := [(2, .int v8), (0, .ref 28), (1, .int x1)]) (i := 2)) ?_
      refine ai (r_goto (pc := 29) (tgt := 7) (by decide +kernel : decode k_P_Reckoning_reckon.2.1 29 = .ok (.goto (-22), 3)) (by decide)) ?_
      exact (ai (r_sub [1, 2, 0] rfl) (ih hL h))
set_option maxRecDepth 100000 in
set_option maxHeartbeats 4000000 in
theorem P_Reckoning_reckon_run {x1 : Int32} {m m' : Mem} {r : Unit} (hL : PL m) (h : P_Reckoning_reckon x1 m = some (r, m')) : Run k_P_Reckoning_reckon 0 [(0, .ref 28), (1, .int x1)] [] m none m' ∧ PL m' := by
  unfold P_Reckoning_reckon at h
  refine ai (p_aload_n (pc := 0) (k := 0) (by decide +kernel : decode k_P_Reckoning_reckon.2.1 0 = .ok (.aload_n 0, 1)) rfl rfl) ?_
  refine ai (r_iconst (pc := 1) (by decide +kernel : decode k_P_Reckoning_reckon.2.1 1 = .ok (.iconst 0, 1)) ic_0) ?_
  have c1 := (PC_28 hL).1
  obtain ⟨m2, hm2, h⟩ := vb_some h
  have hL : PL m2 := by rw [hm2]; exact hL
  refine ai (p_putI (pc := 2) hm2 (by decide +kernel : decode k_P_Reckoning_reckon.2.1 2 = .ok (.putfield 155, 3)) lp_8_155 c1) ?_
  refine ai (r_iconst (pc := 5) (by decide +kernel : decode k_P_Reckoning_reckon.2.1 5 = .ok (.iconst 0, 1)) ic_0) ?_
  refine ai (e_istore_n (pc := 6) rfl (by decide +kernel : decode k_P_Reckoning_reckon.2.1 6 = .ok (.istore_n 2, 1)) rfl (by decide) rfl (ls2 := [(2, .int 0), (0, .ref 28), (1, .int x1)]) (i := 2)) ?_
  exact (ai (r_sub [1, 2, 0] rfl) (P_Reckoning_reckon_7_run hL h))
set_option maxRecDepth 100000 in
set_option maxHeartbeats 4000000 in
theorem P_reckoned_run {x1 : Int32} {x2 : Int32} {x3 : Int32} {x4 : Int32} {m m' : Mem} {r : Int32} (hL : PL m) (h : P_reckoned x1 x2 x3 x4 m = some (r, m')) : Run k_P_reckoned 0 [(0, .ref 0), (1, .int x1), (2, .int x2), (3, .int x3), (4, .int x4)] [] m (some (.int r)) m' ∧ PL m' := by
  unfold P_reckoned at h
  refine ai (p_aload_n (pc := 0) (k := 0) (by decide +kernel : decode k_P_reckoned.2.1 0 = .ok (.aload_n 0, 1)) rfl rfl) ?_
  refine ai (r_iload_n (pc := 1) (k := 1) (by decide +kernel : decode k_P_reckoned.2.1 1 = .ok (.iload_n 1, 1)) rfl rfl) ?_
  refine ai (r_iload_n (pc := 2) (k := 2) (by decide +kernel : decode k_P_reckoned.2.1 2 = .ok (.iload_n 2, 1)) rfl rfl) ?_
  refine ai (r_iload_n (pc := 3) (k := 3) (by decide +kernel : decode k_P_reckoned.2.1 3 = .ok (.iload_n 3, 1)) rfl rfl) ?_
  refine ai (r_iload (pc := 4) (k := 4) (by decide +kernel : decode k_P_reckoned.2.1 4 = .ok (.iload 4, 2)) rfl) ?_
  obtain ⟨r1, m2, hr1, h⟩ := bn_some h
  have q3 := P_isHalfOf_run hL hr1
  have c4 := (PC_0 hL).1
  have hL := q3.2
  refine ai (q_callV (pc := 6) (As := [.int x1, .int x2, .int x3, .int x4]) (st := []) (st2 := [.int r1]) (b := 0) rfl rfl (by decide +kernel : decode k_P_reckoned.2.1 6 = .ok (.invokevirtual 252, 3)) lc_11_252 mo_P_isHalfOf ⟨Nat.le_of_ble_eq_true rfl, Nat.le_of_ble_eq_true rfl⟩ (Nat.le_of_ble_eq_true rfl) (Nat.le_of_ble_eq_true rfl) c4 q3.1) ?_
  rcases ite_some h with ⟨c5, h⟩ | ⟨c5, h⟩
  · refine ai (r_if_ne_f (pc := 9) 14 (by decide +kernel : decode k_P_reckoned.2.1 9 = .ok (.ifCond .ne (5), 3)) (by decide) c5) ?_
    refine ai (r_iconst (pc := 12) (by decide +kernel : decode k_P_reckoned.2.1 12 = .ok (.iconst 0, 1)) ic_0) ?_
    cases h
    exact ⟨r_zret (by decide) rfl (by decide +kernel : decode k_P_reckoned.2.1 13 = .ok (.ireturn, 1)), hL⟩
  · refine ai (r_if_ne_t (pc := 9) (tgt := 14) (by decide +kernel : decode k_P_reckoned.2.1 9 = .ok (.ifCond .ne (5), 3)) (by decide) c5) ?_
    refine ai (p_aload_n (pc := 14) (k := 0) (by decide +kernel : decode k_P_reckoned.2.1 14 = .ok (.aload_n 0, 1)) rfl rfl) ?_
    refine ai (p_getr (pc := 15) (PR_1413_0 hL) (by decide +kernel : decode k_P_reckoned.2.1 15 = .ok (.getfield 60, 3)) lg_11_60 (PC_0 hL).1) ?_
    refine ai (r_iload_n (pc := 18) (k := 1) (by decide +kernel : decode k_P_reckoned.2.1 18 = .ok (.iload_n 1, 1)) rfl rfl) ?_
    refine ai (r_iload_n (pc := 19) (k := 2) (by decide +kernel : decode k_P_reckoned.2.1 19 = .ok (.iload_n 2, 1)) rfl rfl) ?_
    refine ai (r_bipush (pc := 20) (by decide +kernel : decode k_P_reckoned.2.1 20 = .ok (.bipush (7), 2)) (by decide : _ = (7 : Int32))) ?_
    refine ai (r_idiv (pc := 22) (by decide +kernel : decode k_P_reckoned.2.1 22 = .ok (.idiv, 1)) (by decide)) ?_
    refine ai (r_iload (pc := 23) (k := 4) (by decide +kernel : decode k_P_reckoned.2.1 23 = .ok (.iload 4, 2)) rfl) ?_
    obtain ⟨r6, m7, hr6, h⟩ := bn_some h
    have q8 := P_Reckoning_load_run hL hr6
    have c9 := (PC_28 hL).1
    have hL := q8.2
    refine ai (q_callV (pc := 25) (As := [.int x1, .int (x2 / 7), .int x4]) (st := []) (st2 := []) (b := 28) rfl rfl (by decide +kernel : decode k_P_reckoned.2.1 25 = .ok (.invokevirtual 256, 3)) lc_11_256 mo_P_Reckoning_load ⟨Nat.le_of_ble_eq_true rfl, Nat.le_of_ble_eq_true rfl⟩ (Nat.le_of_ble_eq_true rfl) (Nat.le_of_ble_eq_true rfl) c9 q8.1) ?_
    refine ai (p_aload_n (pc := 28) (k := 0) (by decide +kernel : decode k_P_reckoned.2.1 28 = .ok (.aload_n 0, 1)) rfl rfl) ?_
    refine ai (p_getr (pc := 29) (PR_1413_0 hL) (by decide +kernel : decode k_P_reckoned.2.1 29 = .ok (.getfield 60, 3)) lg_11_60 (PC_0 hL).1) ?_
    refine ai (r_iload_n (pc := 32) (k := 2) (by decide +kernel : decode k_P_reckoned.2.1 32 = .ok (.iload_n 2, 1)) rfl rfl) ?_
    refine ai (r_bipush (pc := 33) (by decide +kernel : decode k_P_reckoned.2.1 33 = .ok (.bipush (7), 2)) (by decide : _ = (7 : Int32))) ?_
    refine ai (r_irem (pc := 35) (by decide +kernel : decode k_P_reckoned.2.1 35 = .ok (.irem, 1)) (by decide)) ?_
    obtain ⟨r10, m11, hr10, h⟩ := bn_some h
    have q12 := P_Reckoning_reckon_run hL hr10
    have c13 := (PC_28 hL).1
    have hL := q12.2
    refine ai (q_callV (pc := 36) (As := [.int (x2 - x2 / 7 * 7)]) (st := []) (st2 := []) (b := 28) rfl rfl (by decide +kernel : decode k_P_reckoned.2.1 36 = .ok (.invokevirtual 303, 3)) lc_11_303 mo_P_Reckoning_reckon ⟨Nat.le_of_ble_eq_true rfl, Nat.le_of_ble_eq_true rfl⟩ (Nat.le_of_ble_eq_true rfl) (Nat.le_of_ble_eq_true rfl) c13 q12.1) ?_
    refine ai (r_iconst (pc := 39) (by decide +kernel : decode k_P_reckoned.2.1 39 = .ok (.iconst 1, 1)) ic_1) ?_
    cases h
    exact ⟨r_zret (by decide) rfl (by decide +kernel : decode k_P_reckoned.2.1 40 = .ok (.ireturn, 1)), hL⟩
set_option maxRecDepth 100000 in
set_option maxHeartbeats 4000000 in
theorem P_bound_run {x1 : Int32} {x2 : Int32} {x3 : Int32} {x4 : Int32} {m m' : Mem} {r : Int32} (hL : PL m) (h : P_bound x1 x2 x3 x4 m = some (r, m')) : Run k_P_bound 0 [(0, .ref 0), (1, .int x1), (2, .int x2), (3, .int x3), (4, .int x4)] [] m (some (.int r)) m' ∧ PL m' := by
  unfold P_bound at h
  refine ai (p_aload_n (pc := 0) (k := 0) (by decide +kernel : decode k_P_bound.2.1 0 = .ok (.aload_n 0, 1)) rfl rfl) ?_
  refine ai (r_iload_n (pc := 1) (k := 1) (by decide +kernel : decode k_P_bound.2.1 1 = .ok (.iload_n 1, 1)) rfl rfl) ?_
  refine ai (r_iload_n (pc := 2) (k := 2) (by decide +kernel : decode k_P_bound.2.1 2 = .ok (.iload_n 2, 1)) rfl rfl) ?_
  refine ai (r_iload_n (pc := 3) (k := 3) (by decide +kernel : decode k_P_bound.2.1 3 = .ok (.iload_n 3, 1)) rfl rfl) ?_
  refine ai (r_iload (pc := 4) (k := 4) (by decide +kernel : decode k_P_bound.2.1 4 = .ok (.iload 4, 2)) rfl) ?_
  obtain ⟨r1, m2, hr1, h⟩ := bn_some h
  have q3 := P_reckoned_run hL hr1
  have c4 := (PC_0 hL).1
  have hL := q3.2
  refine ai (q_callV (pc := 6) (As := [.int x1, .int x2, .int x3, .int x4]) (st := []) (st2 := [.int r1]) (b := 0) rfl rfl (by decide +kernel : decode k_P_bound.2.1 6 = .ok (.invokevirtual 263, 3)) lc_11_263 mo_P_reckoned ⟨Nat.le_of_ble_eq_true rfl, Nat.le_of_ble_eq_true rfl⟩ (Nat.le_of_ble_eq_true rfl) (Nat.le_of_ble_eq_true rfl) c4 q3.1) ?_
  rcases ite_some h with ⟨c5, h⟩ | ⟨c5, h⟩
  · refine ai (r_if_eq_t (pc := 9) (tgt := 24) (by decide +kernel : decode k_P_bound.2.1 9 = .ok (.ifCond .eq (15), 3)) (by decide) c5) ?_
    refine ai (r_iconst (pc := 24) (by decide +kernel : decode k_P_bound.2.1 24 = .ok (.iconst (-1), 1)) ic_m1) ?_
    cases h
    exact ⟨r_iret rfl (by decide +kernel : decode k_P_bound.2.1 25 = .ok (.ireturn, 1)), hL⟩
  · refine ai (r_if_eq_f (pc := 9) 24 (by decide +kernel : decode k_P_bound.2.1 9 = .ok (.ifCond .eq (15), 3)) (by decide) c5) ?_
    refine ai (p_aload_n (pc := 12) (k := 0) (by decide +kernel : decode k_P_bound.2.1 12 = .ok (.aload_n 0, 1)) rfl rfl) ?_
    refine ai (p_getr (pc := 13) (PR_1413_0 hL) (by decide +kernel : decode k_P_bound.2.1 13 = .ok (.getfield 60, 3)) lg_11_60 (PC_0 hL).1) ?_
    refine ai (p_getr (pc := 16) (PR_1033_28 hL) (by decide +kernel : decode k_P_bound.2.1 16 = .ok (.getfield 266, 3)) lg_11_266 (PC_28 hL).1) ?_
    refine ai (r_iload_n (pc := 19) (k := 3) (by decide +kernel : decode k_P_bound.2.1 19 = .ok (.iload_n 3, 1)) rfl rfl) ?_
    obtain ⟨g6, h⟩ := gd_some h
    refine ai (p_iald (pc := 20) (by decide +kernel : decode k_P_bound.2.1 20 = .ok (.iaload, 1)) (PC_32 hL).1 (PC_32 hL).2 g6) ?_
    refine ai (r_goto (pc := 21) (tgt := 25) (by decide +kernel : decode k_P_bound.2.1 21 = .ok (.goto (4), 3)) (by decide)) ?_
    cases h
    exact ⟨r_iret rfl (by decide +kernel : decode k_P_bound.2.1 25 = .ok (.ireturn, 1)), hL⟩
set_option maxRecDepth 100000 in
set_option maxHeartbeats 4000000 in
theorem P_classed_run {x1 : Int32} {x2 : Int32} {x3 : Int32} {x4 : Int32} {m m' : Mem} {r : Int32} (hL : PL m) (h : P_classed x1 x2 x3 x4 m = some (r, m')) : Run k_P_classed 0 [(0, .ref 0), (1, .int x1), (2, .int x2), (3, .int x3), (4, .int x4)] [] m (some (.int r)) m' ∧ PL m' := by
  unfold P_classed at h
  refine ai (p_aload_n (pc := 0) (k := 0) (by decide +kernel : decode k_P_classed.2.1 0 = .ok (.aload_n 0, 1)) rfl rfl) ?_
  refine ai (r_iload_n (pc := 1) (k := 1) (by decide +kernel : decode k_P_classed.2.1 1 = .ok (.iload_n 1, 1)) rfl rfl) ?_
  refine ai (r_iload_n (pc := 2) (k := 2) (by decide +kernel : decode k_P_classed.2.1 2 = .ok (.iload_n 2, 1)) rfl rfl) ?_
  refine ai (r_iload_n (pc := 3) (k := 3) (by decide +kernel : decode k_P_classed.2.1 3 = .ok (.iload_n 3, 1)) rfl rfl) ?_
  refine ai (r_iload (pc := 4) (k := 4) (by decide +kernel : decode k_P_classed.2.1 4 = .ok (.iload 4, 2)) rfl) ?_
  obtain ⟨r1, m2, hr1, h⟩ := bn_some h
  have q3 := P_reckoned_run hL hr1
  have c4 := (PC_0 hL).1
  have hL := q3.2
  refine ai (q_callV (pc := 6) (As := [.int x1, .int x2, .int x3, .int x4]) (st := []) (st2 := [.int r1]) (b := 0) rfl rfl (by decide +kernel : decode k_P_classed.2.1 6 = .ok (.invokevirtual 263, 3)) lc_11_263 mo_P_reckoned ⟨Nat.le_of_ble_eq_true rfl, Nat.le_of_ble_eq_true rfl⟩ (Nat.le_of_ble_eq_true rfl) (Nat.le_of_ble_eq_true rfl) c4 q3.1) ?_
  rcases ite_some h with ⟨c5, h⟩ | ⟨c5, h⟩
  · refine ai (r_if_ne_f (pc := 9) 14 (by decide +kernel : decode k_P_classed.2.1 9 = .ok (.ifCond .ne (5), 3)) (by decide) c5) ?_
    refine ai (r_iconst (pc := 12) (by decide +kernel : decode k_P_classed.2.1 12 = .ok (.iconst (-1), 1)) ic_m1) ?_
    cases h
    exact ⟨r_iret rfl (by decide +kernel : decode k_P_classed.2.1 13 = .ok (.ireturn, 1)), hL⟩
  · refine ai (r_if_ne_t (pc := 9) (tgt := 14) (by decide +kernel : decode k_P_classed.2.1 9 = .ok (.ifCond .ne (5), 3)) (by decide) c5) ?_
    refine ai (p_aload_n (pc := 14) (k := 0) (by decide +kernel : decode k_P_classed.2.1 14 = .ok (.aload_n 0, 1)) rfl rfl) ?_
    refine ai (p_getr (pc := 15) (PR_1413_0 hL) (by decide +kernel : decode k_P_classed.2.1 15 = .ok (.getfield 60, 3)) lg_11_60 (PC_0 hL).1) ?_
    refine ai (p_getr (pc := 18) (PR_1034_28 hL) (by decide +kernel : decode k_P_classed.2.1 18 = .ok (.getfield 269, 3)) lg_11_269 (PC_28 hL).1) ?_
    refine ai (r_iload_n (pc := 21) (k := 3) (by decide +kernel : decode k_P_classed.2.1 21 = .ok (.iload_n 3, 1)) rfl rfl) ?_
    obtain ⟨g6, h⟩ := gd_some h
    refine ai (p_aald (pc := 22) (j := 1) (by decide) (by decide +kernel : decode k_P_classed.2.1 22 = .ok (.aaload, 1)) (PC_33 hL).1 (PC_33 hL).2 g6) ?_
    refine ai (r_astore (pc := 23) (by decide +kernel : decode k_P_classed.2.1 23 = .ok (.astore 5, 2)) (by decide) rfl (ls2 := [(5, va_rf (aR m2 33 (ix x3))), (0, .ref 0), (1, .int x1), (2, .int x2), (3, .int x3), (4, .int x4)]) (i := 5)) ?_
    refine ai (p_aload_n (pc := 25) (k := 1) (by decide +kernel : decode k_P_classed.2.1 25 = .ok (.aload_n 0, 1)) rfl rfl) ?_
    refine ai (p_getr (pc := 26) (PR_1413_0 hL) (by decide +kernel : decode k_P_classed.2.1 26 = .ok (.getfield 60, 3)) lg_11_60 (PC_0 hL).1) ?_
    refine ai (p_getr (pc := 29) (PR_1035_28 hL) (by decide +kernel : decode k_P_classed.2.1 29 = .ok (.getfield 273, 3)) lg_11_273 (PC_28 hL).1) ?_
    refine ai (r_iload_n (pc := 32) (k := 4) (by decide +kernel : decode k_P_classed.2.1 32 = .ok (.iload_n 3, 1)) rfl rfl) ?_
    obtain ⟨g7, h⟩ := gd_some h
    refine ai (p_iald (pc := 33) (by decide +kernel : decode k_P_classed.2.1 33 = .ok (.iaload, 1)) (PC_34 hL).1 (PC_34 hL).2 g7) ?_
    obtain ⟨v8, hv8, h⟩ := vb_some h
    refine ai (e_istore (pc := 34) hv8 (by decide +kernel : decode k_P_classed.2.1 34 = .ok (.istore 6, 2)) (by decide) (by simp [f1, vrc, vrs, cti, ctr, ctl, ctn, cta]) (ls2 := [(6, .int v8), (5, va_rf (aR m2 33 (ix x3))), (0, .ref 0), (1, .int x1), (2, .int x2), (3, .int x3), (4, .int x4)]) (i := 6)) ?_
    refine ai (r_aload (pc := 36) (k := 1) (by decide +kernel : decode k_P_classed.2.1 36 = .ok (.aload 5, 2)) rfl) ?_
    rcases ite_some h with ⟨c9, h⟩ | ⟨c9, h⟩
    · refine ai (d_ifnull_t (pc := 38) (tgt := 47) c9 (by decide +kernel : decode k_P_classed.2.1 38 = .ok (.ifnull (9), 3)) (by decide)) ?_
      refine ai (r_iconst (pc := 47) (by decide +kernel : decode k_P_classed.2.1 47 = .ok (.iconst (-1), 1)) ic_m1) ?_
      refine ai (r_goto (pc := 48) (tgt := 62) (by decide +kernel : decode k_P_classed.2.1 48 = .ok (.goto (14), 3)) (by decide)) ?_
      cases h
      exact ⟨r_iret rfl (by decide +kernel : decode k_P_classed.2.1 62 = .ok (.ireturn, 1)), hL⟩
    · refine ai (d_ifnull_f (pc := 38) c9 (by decide +kernel : decode k_P_classed.2.1 38 = .ok (.ifnull (9), 3))) ?_
      refine ai (r_iload (pc := 41) (k := 0) (by decide +kernel : decode k_P_classed.2.1 41 = .ok (.iload 6, 2)) rfl) ?_
      refine ai (r_iconst (pc := 43) (by decide +kernel : decode k_P_classed.2.1 43 = .ok (.iconst (-1), 1)) ic_m1) ?_
      rcases ite_some h with ⟨c10, h⟩ | ⟨c10, h⟩
      · refine ai (r_icmp_ne_f (pc := 44) 51 (by decide +kernel : decode k_P_classed.2.1 44 = .ok (.if_icmp .ne (7), 3)) (by decide) c10) ?_
        refine ai (r_iconst (pc := 47) (by decide +kernel : decode k_P_classed.2.1 47 = .ok (.iconst (-1), 1)) ic_m1) ?_
        refine ai (r_goto (pc := 48) (tgt := 62) (by decide +kernel : decode k_P_classed.2.1 48 = .ok (.goto (14), 3)) (by decide)) ?_
        cases h
        exact ⟨r_iret rfl (by decide +kernel : decode k_P_classed.2.1 62 = .ok (.ireturn, 1)), hL⟩
      · refine ai (r_icmp_ne_t (pc := 44) (tgt := 51) (by decide +kernel : decode k_P_classed.2.1 44 = .ok (.if_icmp .ne (7), 3)) (by decide) c10) ?_
        obtain ⟨a11, o12, h⟩ := gs_some h
        refine ai (d_aload (pc := 51) (k := 1) o12 (by decide +kernel : decode k_P_classed.2.1 51 = .ok (.aload 5, 2)) rfl) ?_
        obtain ⟨t13, h⟩ := gt_some h
        obtain ⟨a14, o15, h⟩ := gs_some h
        refine ai (p_getr (pc := 53) o15 (by decide +kernel : decode k_P_classed.2.1 53 = .ok (.getfield 229, 3)) lg_11_229 t13) ?_
        refine ai (r_iload (pc := 56) (k := 0) (by decide +kernel : decode k_P_classed.2.1 56 = .ok (.iload 6, 2)) rfl) ?_
        obtain ⟨t16, h⟩ := gt_some h
        obtain ⟨g17, h⟩ := gd_some h
        obtain ⟨a18, o19, h⟩ := gs_some h
        refine ai (p_aaldr (pc := 58) (j := 0) (by decide) o19 (by decide +kernel : decode k_P_classed.2.1 58 = .ok (.aaload, 1)) t16 rfl g17) ?_
        obtain ⟨t20, h⟩ := gt_some h
        refine ai (r_getI (pc := 59) (by decide +kernel : decode k_P_classed.2.1 59 = .ok (.getfield 233, 3)) lg_11_233 (by decide) t20) ?_
        cases h
        exact ⟨r_iret rfl (by decide +kernel : decode k_P_classed.2.1 62 = .ok (.ireturn, 1)), hL⟩
set_option maxRecDepth 100000 in
set_option maxHeartbeats 4000000 in
theorem P_Text_nearestClass_119_run {k8 : Nat → Int32 → Option Nat → Int32 → Int32 → Int32 → Mem → Option (Int32 × Mem)} {k20 : Nat → Int32 → Option Nat → Int32 → Int32 → Int32 → Int32 → Mem → Option (Int32 × Mem)} {a0 : Nat} {x1 : Int32} {x2 : Option Nat} {x3 : Int32} {x4 : Int32} {x5 : Int32} {x6 : Int32} {m m' : Mem} {r : Int32} (hk8 : ∀ (a0 : Nat) (x1 : Int32) (x2 : Option Nat) (x3 : Int32) (x4 : Int32) (x5 : Int32) (m : Mem) (r : Int32) (m' : Mem), PL m → mT m a0 = 11 → k8 a0 x1 x2 x3 x4 x5 m = some (r, m') → Run k_P_Text_nearestClass 8 [(0, .ref a0), (1, .int x1), (2, va_rf x2), (3, .int x3), (4, .int x4), (5, .int x5)] [] m (some (.int r)) m' ∧ PL m') (hk20 : ∀ (a0 : Nat) (x1 : Int32) (x2 : Option Nat) (x3 : Int32) (x4 : Int32) (x5 : Int32) (x6 : Int32) (m : Mem) (r : Int32) (m' : Mem), PL m → mT m a0 = 11 → k20 a0 x1 x2 x3 x4 x5 x6 m = some (r, m') → Run k_P_Text_nearestClass 20 [(0, .ref a0), (1, .int x1), (2, va_rf x2), (3, .int x3), (4, .int x4), (5, .int x5), (6, .int x6)] [] m (some (.int r)) m' ∧ PL m') (hL : PL m) (ht : mT m a0 = 11) (h : P_Text_nearestClass_119 k8 k20 a0 x1 x2 x3 x4 x5 x6 m = some (r, m')) : Run k_P_Text_nearestClass 119 [(0, .ref a0), (1, .int x1), (2, va_rf x2), (3, .int x3), (4, .int x4), (5, .int x5), (6, .int x6)] [] m (some (.int r)) m' ∧ PL m' := by
  unfold P_Text_nearestClass_119 at h
  obtain ⟨v1, hv1, h⟩ := vb_some h
  refine ai (e_iinc (pc := 119) (k := 6) hv1 ic_1 (by decide +kernel : decode k_P_Text_nearestClass.2.1 119 = .ok (.iinc 6 (1), 3)) rfl (by decide) rfl (ls2 := [(6, .int v1), (0, .ref a0), (1, .int x1), (2, va_rf x2), (3, .int x3), (4, .int x4), (5, .int x5)]) (i := 6)) ?_
  refine ai (r_goto (pc := 122) (tgt := 20) (by decide +kernel : decode k_P_Text_nearestClass.2.1 122 = .ok (.goto (-102), 3)) (by decide)) ?_
  exact (ai (r_sub [1, 2, 3, 4, 5, 6, 0] rfl) (hk20 a0 x1 x2 x3 x4 x5 v1 m _ _ hL ht h))
set_option maxRecDepth 100000 in
set_option maxHeartbeats 4000000 in
theorem P_Text_nearestClass_95_run {k8 : Nat → Int32 → Option Nat → Int32 → Int32 → Int32 → Mem → Option (Int32 × Mem)} {k20 : Nat → Int32 → Option Nat → Int32 → Int32 → Int32 → Int32 → Mem → Option (Int32 × Mem)} {a0 : Nat} {x1 : Int32} {x2 : Option Nat} {x3 : Int32} {x4 : Int32} {x5 : Int32} {x6 : Int32} {s0 : Int32} {m m' : Mem} {r : Int32} (hk8 : ∀ (a0 : Nat) (x1 : Int32) (x2 : Option Nat) (x3 : Int32) (x4 : Int32) (x5 : Int32) (m : Mem) (r : Int32) (m' : Mem), PL m → mT m a0 = 11 → k8 a0 x1 x2 x3 x4 x5 m = some (r, m') → Run k_P_Text_nearestClass 8 [(0, .ref a0), (1, .int x1), (2, va_rf x2), (3, .int x3), (4, .int x4), (5, .int x5)] [] m (some (.int r)) m' ∧ PL m') (hk20 : ∀ (a0 : Nat) (x1 : Int32) (x2 : Option Nat) (x3 : Int32) (x4 : Int32) (x5 : Int32) (x6 : Int32) (m : Mem) (r : Int32) (m' : Mem), PL m → mT m a0 = 11 → k20 a0 x1 x2 x3 x4 x5 x6 m = some (r, m') → Run k_P_Text_nearestClass 20 [(0, .ref a0), (1, .int x1), (2, va_rf x2), (3, .int x3), (4, .int x4), (5, .int x5), (6, .int x6)] [] m (some (.int r)) m' ∧ PL m') (hL : PL m) (ht : mT m a0 = 11) (h : P_Text_nearestClass_95 k8 k20 a0 x1 x2 x3 x4 x5 x6 s0 m = some (r, m')) : Run k_P_Text_nearestClass 95 [(0, .ref a0), (1, .int x1), (2, va_rf x2), (3, .int x3), (4, .int x4), (5, .int x5), (6, .int x6)] [.int s0] m (some (.int r)) m' ∧ PL m' := by
  unfold P_Text_nearestClass_95 at h
  refine ai (e_istore (pc := 95) rfl (by decide +kernel : decode k_P_Text_nearestClass.2.1 95 = .ok (.istore 8, 2)) (by decide) rfl (ls2 := [(8, .int s0), (0, .ref a0), (1, .int x1), (2, va_rf x2), (3, .int x3), (4, .int x4), (5, .int x5), (6, .int x6)]) (i := 8)) ?_
  refine ai (r_iload (pc := 97) (k := 0) (by decide +kernel : decode k_P_Text_nearestClass.2.1 97 = .ok (.iload 8, 2)) rfl) ?_
  refine ai (r_iload (pc := 99) (k := 5) (by decide +kernel : decode k_P_Text_nearestClass.2.1 99 = .ok (.iload 4, 2)) rfl) ?_
  rcases ite_some h with ⟨c1, h⟩ | ⟨c1, h⟩
  · refine ai (r_icmp_le_t (pc := 101) (tgt := 119) (by decide +kernel : decode k_P_Text_nearestClass.2.1 101 = .ok (.if_icmp .le (18), 3)) (by decide) c1) ?_
    exact (ai (r_sub [1, 2, 3, 4, 5, 6, 7] rfl) (P_Text_nearestClass_119_run hk8 hk20 hL ht h))
  · refine ai (r_icmp_le_f (pc := 101) 119 (by decide +kernel : decode k_P_Text_nearestClass.2.1 101 = .ok (.if_icmp .le (18), 3)) (by decide) c1) ?_
    refine ai (r_iload (pc := 104) (k := 0) (by decide +kernel : decode k_P_Text_nearestClass.2.1 104 = .ok (.iload 8, 2)) rfl) ?_
    refine ai (e_istore (pc := 106) rfl (by decide +kernel : decode k_P_Text_nearestClass.2.1 106 = .ok (.istore 4, 2)) (by decide) rfl (ls2 := [(4, .int s0), (8, .int s0), (0, .ref a0), (1, .int x1), (2, va_rf x2), (3, .int x3), (5, .int x5), (6, .int x6)]) (i := 4)) ?_
    refine ai (p_aload_n (pc := 108) (k := 2) (by decide +kernel : decode k_P_Text_nearestClass.2.1 108 = .ok (.aload_n 0, 1)) rfl rfl) ?_
    obtain ⟨a2, o3, h⟩ := gs_some h
    refine ai (p_getr (pc := 109) o3 (by decide +kernel : decode k_P_Text_nearestClass.2.1 109 = .ok (.getfield 43, 3)) lg_10_43 ht) ?_
    refine ai (r_iload (pc := 112) (k := 6) (by decide +kernel : decode k_P_Text_nearestClass.2.1 112 = .ok (.iload 5, 2)) rfl) ?_
    obtain ⟨t4, h⟩ := gt_some h
    obtain ⟨g5, h⟩ := gd_some h
    obtain ⟨a6, o7, h⟩ := gs_some h
    refine ai (p_aaldr (pc := 114) (j := 0) (by decide) o7 (by decide +kernel : decode k_P_Text_nearestClass.2.1 114 = .ok (.aaload, 1)) t4 rfl g5) ?_
    obtain ⟨t8, h⟩ := gt_some h
    refine ai (r_getI (pc := 115) (by decide +kernel : decode k_P_Text_nearestClass.2.1 115 = .ok (.getfield 59, 3)) lg_10_59 (by decide) t8) ?_
    obtain ⟨v9, hv9, h⟩ := vb_some h
    refine ai (e_istore_n (pc := 118) hv9 (by decide +kernel : decode k_P_Text_nearestClass.2.1 118 = .ok (.istore_n 3, 1)) rfl (by decide) (by simp [f1, vrc, vrs, cti, ctr, ctl, ctn, cta]) (ls2 := [(3, .int v9), (4, .int s0), (8, .int s0), (0, .ref a0), (1, .int x1), (2, va_rf x2), (5, .int x5), (6, .int x6)]) (i := 3)) ?_
    exact (ai (r_sub [3, 4, 5, 0, 1, 6, 7] rfl) (P_Text_nearestClass_119_run hk8 hk20 hL ht h))
set_option maxRecDepth 100000 in
set_option maxHeartbeats 4000000 in
theorem P_Text_nearestClass_94_run {k8 : Nat → Int32 → Option Nat → Int32 → Int32 → Int32 → Mem → Option (Int32 × Mem)} {k20 : Nat → Int32 → Option Nat → Int32 → Int32 → Int32 → Int32 → Mem → Option (Int32 × Mem)} {a0 : Nat} {x1 : Int32} {x2 : Option Nat} {x3 : Int32} {x4 : Int32} {x5 : Int32} {x6 : Int32} {m m' : Mem} {r : Int32} (hk8 : ∀ (a0 : Nat) (x1 : Int32) (x2 : Option Nat) (x3 : Int32) (x4 : Int32) (x5 : Int32) (m : Mem) (r : Int32) (m' : Mem), PL m → mT m a0 = 11 → k8 a0 x1 x2 x3 x4 x5 m = some (r, m') → Run k_P_Text_nearestClass 8 [(0, .ref a0), (1, .int x1), (2, va_rf x2), (3, .int x3), (4, .int x4), (5, .int x5)] [] m (some (.int r)) m' ∧ PL m') (hk20 : ∀ (a0 : Nat) (x1 : Int32) (x2 : Option Nat) (x3 : Int32) (x4 : Int32) (x5 : Int32) (x6 : Int32) (m : Mem) (r : Int32) (m' : Mem), PL m → mT m a0 = 11 → k20 a0 x1 x2 x3 x4 x5 x6 m = some (r, m') → Run k_P_Text_nearestClass 20 [(0, .ref a0), (1, .int x1), (2, va_rf x2), (3, .int x3), (4, .int x4), (5, .int x5), (6, .int x6)] [] m (some (.int r)) m' ∧ PL m') (hL : PL m) (ht : mT m a0 = 11) (h : P_Text_nearestClass_94 k8 k20 a0 x1 x2 x3 x4 x5 x6 m = some (r, m')) : Run k_P_Text_nearestClass 94 [(0, .ref a0), (1, .int x1), (2, va_rf x2), (3, .int x3), (4, .int x4), (5, .int x5), (6, .int x6)] [] m (some (.int r)) m' ∧ PL m' := by
  unfold P_Text_nearestClass_94 at h
  refine ai (r_iconst (pc := 94) (by decide +kernel : decode k_P_Text_nearestClass.2.1 94 = .ok (.iconst 0, 1)) ic_0) ?_
  exact (P_Text_nearestClass_95_run hk8 hk20 hL ht h)
set_option maxRecDepth 100000 in
set_option maxHeartbeats 4000000 in
theorem P_Text_nearestClass_66_run {k8 : Nat → Int32 → Option Nat → Int32 → Int32 → Int32 → Mem → Option (Int32 × Mem)} {k20 : Nat → Int32 → Option Nat → Int32 → Int32 → Int32 → Int32 → Mem → Option (Int32 × Mem)} {a0 : Nat} {x1 : Int32} {x2 : Option Nat} {x3 : Int32} {x4 : Int32} {x5 : Int32} {x6 : Int32} {s0 : Int32} {m m' : Mem} {r : Int32} (hk8 : ∀ (a0 : Nat) (x1 : Int32) (x2 : Option Nat) (x3 : Int32) (x4 : Int32) (x5 : Int32) (m : Mem) (r : Int32) (m' : Mem), PL m → mT m a0 = 11 → k8 a0 x1 x2 x3 x4 x5 m = some (r, m') → Run k_P_Text_nearestClass 8 [(0, .ref a0), (1, .int x1), (2, va_rf x2), (3, .int x3), (4, .int x4), (5, .int x5)] [] m (some (.int r)) m' ∧ PL m') (hk20 : ∀ (a0 : Nat) (x1 : Int32) (x2 : Option Nat) (x3 : Int32) (x4 : Int32) (x5 : Int32) (x6 : Int32) (m : Mem) (r : Int32) (m' : Mem), PL m → mT m a0 = 11 → k20 a0 x1 x2 x3 x4 x5 x6 m = some (r, m') → Run k_P_Text_nearestClass 20 [(0, .ref a0), (1, .int x1), (2, va_rf x2), (3, .int x3), (4, .int x4), (5, .int x5), (6, .int x6)] [] m (some (.int r)) m' ∧ PL m') (hL : PL m) (ht : mT m a0 = 11) (h : P_Text_nearestClass_66 k8 k20 a0 x1 x2 x3 x4 x5 x6 s0 m = some (r, m')) : Run k_P_Text_nearestClass 66 [(0, .ref a0), (1, .int x1), (2, va_rf x2), (3, .int x3), (4, .int x4), (5, .int x5), (6, .int x6)] [.int s0] m (some (.int r)) m' ∧ PL m' := by
  unfold P_Text_nearestClass_66 at h
  refine ai (e_istore (pc := 66) rfl (by decide +kernel : decode k_P_Text_nearestClass.2.1 66 = .ok (.istore 7, 2)) (by decide) rfl (ls2 := [(7, .int s0), (0, .ref a0), (1, .int x1), (2, va_rf x2), (3, .int x3), (4, .int x4), (5, .int x5), (6, .int x6)]) (i := 7)) ?_
  refine ai (r_iload (pc := 68) (k := 0) (by decide +kernel : decode k_P_Text_nearestClass.2.1 68 = .ok (.iload 7, 2)) rfl) ?_
  rcases ite_some h with ⟨c1, h⟩ | ⟨c1, h⟩
  · refine ai (r_if_eq_t (pc := 70) (tgt := 94) (by decide +kernel : decode k_P_Text_nearestClass.2.1 70 = .ok (.ifCond .eq (24), 3)) (by decide) c1) ?_
    exact (ai (r_sub [1, 2, 3, 4, 5, 6, 7] rfl) (P_Text_nearestClass_94_run hk8 hk20 hL ht h))
  · refine ai (r_if_eq_f (pc := 70) 94 (by decide +kernel : decode k_P_Text_nearestClass.2.1 70 = .ok (.ifCond .eq (24), 3)) (by decide) c1) ?_
    refine ai (r_iload_n (pc := 73) (k := 2) (by decide +kernel : decode k_P_Text_nearestClass.2.1 73 = .ok (.iload_n 1, 1)) rfl rfl) ?_
    obtain ⟨r2, hr2, h⟩ := bp_some h
    refine ai (q_callSN (pc := 74) (As := [.int x1]) (st := []) (st2 := [.int r2]) rfl rfl (by decide +kernel : decode k_P_Text_nearestClass.2.1 74 = .ok (.invokestatic 68, 3)) lc_10_68 mo_P_isTask ⟨Nat.le_of_ble_eq_true rfl, Nat.le_of_ble_eq_true rfl⟩ (Nat.le_of_ble_eq_true rfl) (Nat.le_of_ble_eq_true rfl) (P_isTask_run hr2)) ?_
    rcases ite_some h with ⟨c3, h⟩ | ⟨c3, h⟩
    · refine ai (r_if_eq_t (pc := 77) (tgt := 94) (by decide +kernel : decode k_P_Text_nearestClass.2.1 77 = .ok (.ifCond .eq (17), 3)) (by decide) c3) ?_
      exact (ai (r_sub [1, 2, 3, 4, 5, 6, 7] rfl) (P_Text_nearestClass_94_run hk8 hk20 hL ht h))
    · refine ai (r_if_eq_f (pc := 77) 94 (by decide +kernel : decode k_P_Text_nearestClass.2.1 77 = .ok (.ifCond .eq (17), 3)) (by decide) c3) ?_
      obtain ⟨a4, rfl, hha4⟩ := gs_some h
      have h := hha4
      refine ai (p_aload_n (pc := 80) (k := 3) (by decide +kernel : decode k_P_Text_nearestClass.2.1 80 = .ok (.aload_n 2, 1)) rfl rfl) ?_
      refine ai (r_iload_n (pc := 81) (k := 2) (by decide +kernel : decode k_P_Text_nearestClass.2.1 81 = .ok (.iload_n 1, 1)) rfl rfl) ?_
      obtain ⟨t5, h⟩ := gt_some h
      obtain ⟨g6, h⟩ := gd_some h
      refine ai (p_iald (pc := 82) (by decide +kernel : decode k_P_Text_nearestClass.2.1 82 = .ok (.iaload, 1)) t5 rfl g6) ?_
      refine ai (p_aload_n (pc := 83) (k := 3) (by decide +kernel : decode k_P_Text_nearestClass.2.1 83 = .ok (.aload_n 2, 1)) rfl rfl) ?_
      refine ai (r_iload (pc := 84) (k := 7) (by decide +kernel : decode k_P_Text_nearestClass.2.1 84 = .ok (.iload 6, 2)) rfl) ?_
      obtain ⟨g7, h⟩ := gd_some h
      refine ai (p_iald (pc := 86) (by decide +kernel : decode k_P_Text_nearestClass.2.1 86 = .ok (.iaload, 1)) t5 rfl g7) ?_
      refine ai (r_iand (pc := 87) (by decide +kernel : decode k_P_Text_nearestClass.2.1 87 = .ok (.iand, 1))) ?_
      obtain ⟨r8, hr8, h⟩ := bp_some h
      refine ai (q_callS (pc := 88) (As := [.int ((aI m a4 (ix x1)) &&& (aI m a4 (ix x6)))]) (st := []) (st2 := [.int r8]) rfl rfl (by decide +kernel : decode k_P_Text_nearestClass.2.1 88 = .ok (.invokestatic 72, 3)) lc_10_72 mo_J_bitCount ⟨Nat.le_of_ble_eq_true rfl, Nat.le_of_ble_eq_true rfl⟩ (Nat.le_of_ble_eq_true rfl) (Nat.le_of_ble_eq_true rfl) (J_bitCount_run hr8)) ?_
      refine ai (r_goto (pc := 91) (tgt := 95) (by decide +kernel : decode k_P_Text_nearestClass.2.1 91 = .ok (.goto (4), 3)) (by decide)) ?_
      exact (ai (r_sub [1, 2, 3, 4, 5, 6, 7] rfl) (P_Text_nearestClass_95_run hk8 hk20 hL ht h))
set_option maxRecDepth 100000 in
set_option maxHeartbeats 4000000 in
theorem P_Text_nearestClass_65_run {k8 : Nat → Int32 → Option Nat → Int32 → Int32 → Int32 → Mem → Option (Int32 × Mem)} {k20 : Nat → Int32 → Option Nat → Int32 → Int32 → Int32 → Int32 → Mem → Option (Int32 × Mem)} {a0 : Nat} {x1 : Int32} {x2 : Option Nat} {x3 : Int32} {x4 : Int32} {x5 : Int32} {x6 : Int32} {m m' : Mem} {r : Int32} (hk8 : ∀ (a0 : Nat) (x1 : Int32) (x2 : Option Nat) (x3 : Int32) (x4 : Int32) (x5 : Int32) (m : Mem) (r : Int32) (m' : Mem), PL m → mT m a0 = 11 → k8 a0 x1 x2 x3 x4 x5 m = some (r, m') → Run k_P_Text_nearestClass 8 [(0, .ref a0), (1, .int x1), (2, va_rf x2), (3, .int x3), (4, .int x4), (5, .int x5)] [] m (some (.int r)) m' ∧ PL m') (hk20 : ∀ (a0 : Nat) (x1 : Int32) (x2 : Option Nat) (x3 : Int32) (x4 : Int32) (x5 : Int32) (x6 : Int32) (m : Mem) (r : Int32) (m' : Mem), PL m → mT m a0 = 11 → k20 a0 x1 x2 x3 x4 x5 x6 m = some (r, m') → Run k_P_Text_nearestClass 20 [(0, .ref a0), (1, .int x1), (2, va_rf x2), (3, .int x3), (4, .int x4), (5, .int x5), (6, .int x6)] [] m (some (.int r)) m' ∧ PL m') (hL : PL m) (ht : mT m a0 = 11) (h : P_Text_nearestClass_65 k8 k20 a0 x1 x2 x3 x4 x5 x6 m = some (r, m')) : Run k_P_Text_nearestClass 65 [(0, .ref a0), (1, .int x1), (2, va_rf x2), (3, .int x3), (4, .int x4), (5, .int x5), (6, .int x6)] [] m (some (.int r)) m' ∧ PL m' := by
  unfold P_Text_nearestClass_65 at h
  refine ai (r_iconst (pc := 65) (by decide +kernel : decode k_P_Text_nearestClass.2.1 65 = .ok (.iconst 0, 1)) ic_0) ?_
  exact (P_Text_nearestClass_66_run hk8 hk20 hL ht h)
set_option maxRecDepth 100000 in
set_option maxHeartbeats 4000000 in
theorem P_Text_nearestClass_125_run {k8 : Nat → Int32 → Option Nat → Int32 → Int32 → Int32 → Mem → Option (Int32 × Mem)} {a0 : Nat} {x1 : Int32} {x2 : Option Nat} {x3 : Int32} {x4 : Int32} {x5 : Int32} {m m' : Mem} {r : Int32} (hk8 : ∀ (a0 : Nat) (x1 : Int32) (x2 : Option Nat) (x3 : Int32) (x4 : Int32) (x5 : Int32) (m : Mem) (r : Int32) (m' : Mem), PL m → mT m a0 = 11 → k8 a0 x1 x2 x3 x4 x5 m = some (r, m') → Run k_P_Text_nearestClass 8 [(0, .ref a0), (1, .int x1), (2, va_rf x2), (3, .int x3), (4, .int x4), (5, .int x5)] [] m (some (.int r)) m' ∧ PL m') (hL : PL m) (ht : mT m a0 = 11) (h : P_Text_nearestClass_125 k8 a0 x1 x2 x3 x4 x5 m = some (r, m')) : Run k_P_Text_nearestClass 125 [(0, .ref a0), (1, .int x1), (2, va_rf x2), (3, .int x3), (4, .int x4), (5, .int x5)] [] m (some (.int r)) m' ∧ PL m' := by
  unfold P_Text_nearestClass_125 at h
  obtain ⟨v1, hv1, h⟩ := vb_some h
  refine ai (e_iinc (pc := 125) (k := 5) hv1 ic_1 (by decide +kernel : decode k_P_Text_nearestClass.2.1 125 = .ok (.iinc 5 (1), 3)) rfl (by decide) rfl (ls2 := [(5, .int v1), (0, .ref a0), (1, .int x1), (2, va_rf x2), (3, .int x3), (4, .int x4)]) (i := 5)) ?_
  refine ai (r_goto (pc := 128) (tgt := 8) (by decide +kernel : decode k_P_Text_nearestClass.2.1 128 = .ok (.goto (-120), 3)) (by decide)) ?_
  exact (ai (r_sub [1, 2, 3, 4, 5, 0] rfl) (hk8 a0 x1 x2 x3 x4 v1 m _ _ hL ht h))
set_option maxRecDepth 100000 in
set_option maxHeartbeats 4000000 in
theorem P_Text_nearestClass_20_run {k8 : Nat → Int32 → Option Nat → Int32 → Int32 → Int32 → Mem → Option (Int32 × Mem)} {n : Nat} {a0 : Nat} {x1 : Int32} {x2 : Option Nat} {x3 : Int32} {x4 : Int32} {x5 : Int32} {x6 : Int32} {m m' : Mem} {r : Int32} (hk8 : ∀ (a0 : Nat) (x1 : Int32) (x2 : Option Nat) (x3 : Int32) (x4 : Int32) (x5 : Int32) (m : Mem) (r : Int32) (m' : Mem), PL m → mT m a0 = 11 → k8 a0 x1 x2 x3 x4 x5 m = some (r, m') → Run k_P_Text_nearestClass 8 [(0, .ref a0), (1, .int x1), (2, va_rf x2), (3, .int x3), (4, .int x4), (5, .int x5)] [] m (some (.int r)) m' ∧ PL m') (hL : PL m) (ht : mT m a0 = 11) (h : P_Text_nearestClass_20 k8 n a0 x1 x2 x3 x4 x5 x6 m = some (r, m')) : Run k_P_Text_nearestClass 20 [(0, .ref a0), (1, .int x1), (2, va_rf x2), (3, .int x3), (4, .int x4), (5, .int x5), (6, .int x6)] [] m (some (.int r)) m' ∧ PL m' := by
  induction n generalizing a0 x1 x2 x3 x4 x5 x6 m r m' with
  | zero => exact absurd h (by simp [P_Text_nearestClass_20])
  | succ n ih =>
    rw [P_Text_nearestClass_20.eq_2] at h
    refine ai (r_iload (pc := 20) (k := 6) (by decide +kernel : decode k_P_Text_nearestClass.2.1 20 = .ok (.iload 6, 2)) rfl) ?_
    obtain ⟨a1, rfl, hha1⟩ := gs_some h
    have h := hha1
    refine ai (p_aload_n (pc := 22) (k := 2) (by decide +kernel : decode k_P_Text_nearestClass.2.1 22 = .ok (.aload_n 2, 1)) rfl rfl) ?_
    obtain ⟨t2, h⟩ := gt_some h
    refine ai (p_alen (pc := 23) (by decide +kernel : decode k_P_Text_nearestClass.2.1 23 = .ok (.arraylength, 1)) (by rw [t2]; decide) rfl rfl) ?_
    rcases ite_some h with ⟨c3, h⟩ | ⟨c3, h⟩
    · refine ai (r_icmp_ge_t (pc := 24) (tgt := 125) (by decide +kernel : decode k_P_Text_nearestClass.2.1 24 = .ok (.if_icmp .ge (101), 3)) (by decide) c3) ?_
      exact (ai (r_sub [0, 1, 2, 3, 4, 5] rfl) (P_Text_nearestClass_125_run hk8 hL ht h))
    · refine ai (r_icmp_ge_f (pc := 24) 125 (by decide +kernel : decode k_P_Text_nearestClass.2.1 24 = .ok (.if_icmp .ge (101), 3)) (by decide) c3) ?_
      refine ai (p_aload_n (pc := 27) (k := 0) (by decide +kernel : decode k_P_Text_nearestClass.2.1 27 = .ok (.aload_n 0, 1)) rfl rfl) ?_
      obtain ⟨a4, o5, h⟩ := gs_some h
      refine ai (p_getr (pc := 28) o5 (by decide +kernel : decode k_P_Text_nearestClass.2.1 28 = .ok (.getfield 43, 3)) lg_10_43 ht) ?_
      refine ai (r_iload (pc := 31) (k := 5) (by decide +kernel : decode k_P_Text_nearestClass.2.1 31 = .ok (.iload 5, 2)) rfl) ?_
      obtain ⟨t6, h⟩ := gt_some h
      obtain ⟨g7, h⟩ := gd_some h
      obtain ⟨a8, o9, h⟩ := gs_some h
      refine ai (p_aaldr (pc := 33) (j := 0) (by decide) o9 (by decide +kernel : decode k_P_Text_nearestClass.2.1 33 = .ok (.aaload, 1)) t6 rfl g7) ?_
      obtain ⟨t10, h⟩ := gt_some h
      refine ai (r_getI (pc := 34) (by decide +kernel : decode k_P_Text_nearestClass.2.1 34 = .ok (.getfield 64, 3)) lg_10_64 (by decide) t10) ?_
      refine ai (r_bipush (pc := 37) (by decide +kernel : decode k_P_Text_nearestClass.2.1 37 = .ok (.bipush (34), 2)) (by decide : _ = (34 : Int32))) ?_
      rcases ite_some h with ⟨c11, h⟩ | ⟨c11, h⟩
      · refine ai (r_icmp_ne_f (pc := 39) 65 (by decide +kernel : decode k_P_Text_nearestClass.2.1 39 = .ok (.if_icmp .ne (26), 3)) (by decide) c11) ?_
        refine ai (p_aload_n (pc := 42) (k := 0) (by decide +kernel : decode k_P_Text_nearestClass.2.1 42 = .ok (.aload_n 0, 1)) rfl rfl) ?_
        obtain ⟨a12, o13, h⟩ := gs_some h
        refine ai (p_getr (pc := 43) o13 (by decide +kernel : decode k_P_Text_nearestClass.2.1 43 = .ok (.getfield 43, 3)) lg_10_43 ht) ?_
        refine ai (r_iload (pc := 46) (k := 5) (by decide +kernel : decode k_P_Text_nearestClass.2.1 46 = .ok (.iload 5, 2)) rfl) ?_
        obtain ⟨t14, h⟩ := gt_some h
        obtain ⟨g15, h⟩ := gd_some h
        obtain ⟨a16, o17, h⟩ := gs_some h
        refine ai (p_aaldr (pc := 48) (j := 0) (by decide) o17 (by decide +kernel : decode k_P_Text_nearestClass.2.1 48 = .ok (.aaload, 1)) t14 rfl g15) ?_
        obtain ⟨t18, h⟩ := gt_some h
        refine ai (r_getI (pc := 49) (by decide +kernel : decode k_P_Text_nearestClass.2.1 49 = .ok (.getfield 65, 3)) lg_10_65 (by decide) t18) ?_
        refine ai (r_iload (pc := 52) (k := 6) (by decide +kernel : decode k_P_Text_nearestClass.2.1 52 = .ok (.iload 6, 2)) rfl) ?_
        refine ai (r_ishr (pc := 54) (by decide +kernel : decode k_P_Text_nearestClass.2.1 54 = .ok (.ishr, 1))) ?_
        refine ai (r_iconst (pc := 55) (by decide +kernel : decode k_P_Text_nearestClass.2.1 55 = .ok (.iconst 1, 1)) ic_1) ?_
        refine ai (r_iand (pc := 56) (by decide +kernel : decode k_P_Text_nearestClass.2.1 56 = .ok (.iand, 1))) ?_
        refine ai (r_iconst (pc := 57) (by decide +kernel : decode k_P_Text_nearestClass.2.1 57 = .ok (.iconst 1, 1)) ic_1) ?_
        rcases ite_some h with ⟨c19, h⟩ | ⟨c19, h⟩
        · refine ai (r_icmp_ne_f (pc := 58) 65 (by decide +kernel : decode k_P_Text_nearestClass.2.1 58 = .ok (.if_icmp .ne (7), 3)) (by decide) c19) ?_
          refine ai (r_iconst (pc := 61) (by decide +kernel : decode k_P_Text_nearestClass.2.1 61 = .ok (.iconst 1, 1)) ic_1) ?_
          refine ai (r_goto (pc := 62) (tgt := 66) (by decide +kernel : decode k_P_Text_nearestClass.2.1 62 = .ok (.goto (4), 3)) (by decide)) ?_
          exact (P_Text_nearestClass_66_run hk8 (fun _ _ _ _ _ _ _ _ _ _ q1 q2 q3 => ih q1 q2 q3) hL ht h)
        · refine ai (r_icmp_ne_t (pc := 58) (tgt := 65) (by decide +kernel : decode k_P_Text_nearestClass.2.1 58 = .ok (.if_icmp .ne (7), 3)) (by decide) c19) ?_
          exact (P_Text_nearestClass_65_run hk8 (fun _ _ _ _ _ _ _ _ _ _ q1 q2 q3 => ih q1 q2 q3) hL ht h)
      · refine ai (r_icmp_ne_t (pc := 39) (tgt := 65) (by decide +kernel : decode k_P_Text_nearestClass.2.1 39 = .ok (.if_icmp .ne (26), 3)) (by decide) c11) ?_
        exact (P_Text_nearestClass_65_run hk8 (fun _ _ _ _ _ _ _ _ _ _ q1 q2 q3 => ih q1 q2 q3) hL ht h)
set_option maxRecDepth 100000 in
set_option maxHeartbeats 4000000 in
theorem P_Text_nearestClass_8_run {n : Nat} {a0 : Nat} {x1 : Int32} {x2 : Option Nat} {x3 : Int32} {x4 : Int32} {x5 : Int32} {m m' : Mem} {r : Int32} (hL : PL m) (ht : mT m a0 = 11) (h : P_Text_nearestClass_8 n a0 x1 x2 x3 x4 x5 m = some (r, m')) : Run k_P_Text_nearestClass 8 [(0, .ref a0), (1, .int x1), (2, va_rf x2), (3, .int x3), (4, .int x4), (5, .int x5)] [] m (some (.int r)) m' ∧ PL m' := by
  induction n generalizing a0 x1 x2 x3 x4 x5 m r m' with
  | zero => exact absurd h (by simp [P_Text_nearestClass_8])
  | succ n ih =>
    rw [P_Text_nearestClass_8.eq_2] at h
    refine ai (r_iload (pc := 8) (k := 5) (by decide +kernel : decode k_P_Text_nearestClass.2.1 8 = .ok (.iload 5, 2)) rfl) ?_
    refine ai (p_aload_n (pc := 10) (k := 0) (by decide +kernel : decode k_P_Text_nearestClass.2.1 10 = .ok (.aload_n 0, 1)) rfl rfl) ?_
    refine ai (r_getI (pc := 11) (by decide +kernel : decode k_P_Text_nearestClass.2.1 11 = .ok (.getfield 56, 3)) lg_10_56 (by decide) ht) ?_
    rcases ite_some h with ⟨c1, h⟩ | ⟨c1, h⟩
    · refine ai (r_icmp_ge_t (pc := 14) (tgt := 131) (by decide +kernel : decode k_P_Text_nearestClass.2.1 14 = .ok (.if_icmp .ge (117), 3)) (by decide) c1) ?_
      refine ai (r_iload_n (pc := 131) (k := 3) (by decide +kernel : decode k_P_Text_nearestClass.2.1 131 = .ok (.iload_n 3, 1)) rfl rfl) ?_
      cases h
      exact ⟨r_iret rfl (by decide +kernel : decode k_P_Text_nearestClass.2.1 132 = .ok (.ireturn, 1)), hL⟩
    · refine ai (r_icmp_ge_f (pc := 14) 131 (by decide +kernel : decode k_P_Text_nearestClass.2.1 14 = .ok (.if_icmp .ge (117), 3)) (by decide) c1) ?_
      refine ai (r_iconst (pc := 17) (by decide +kernel : decode k_P_Text_nearestClass.2.1 17 = .ok (.iconst 0, 1)) ic_0) ?_
      refine ai (e_istore (pc := 18) rfl (by decide +kernel : decode k_P_Text_nearestClass.2.1 18 = .ok (.istore 6, 2)) (by decide) rfl (ls2 := [(6, .int 0), (0, .ref a0), (1, .int x1), (2, va_rf x2), (3, .int x3), (4, .int x4), (5, .int x5)]) (i := 6)) ?_
      exact (ai (r_sub [1, 2, 3, 4, 5, 6, 0] rfl) (P_Text_nearestClass_20_run (fun _ _ _ _ _ _ _ _ _ q1 q2 q3 => ih q1 q2 q3) hL ht h))
set_option maxRecDepth 100000 in
set_option maxHeartbeats 4000000 in
theorem P_Text_nearestClass_run {a0 : Nat} {x1 : Int32} {x2 : Option Nat} {m m' : Mem} {r : Int32} (hL : PL m) (ht : mT m a0 = 11) (h : P_Text_nearestClass a0 x1 x2 m = some (r, m')) : Run k_P_Text_nearestClass 0 [(0, .ref a0), (1, .int x1), (2, va_rf x2)] [] m (some (.int r)) m' ∧ PL m' := by
  unfold P_Text_nearestClass at h
  refine ai (r_iconst (pc := 0) (by decide +kernel : decode k_P_Text_nearestClass.2.1 0 = .ok (.iconst (-1), 1)) ic_m1) ?_
  refine ai (e_istore_n (pc := 1) rfl (by decide +kernel : decode k_P_Text_nearestClass.2.1 1 = .ok (.istore_n 3, 1)) rfl (by decide) (by simp [f1, vrc, vrs, cti, ctr, ctl, ctn, cta]) (ls2 := [(3, .int (-1)), (0, .ref a0), (1, .int x1), (2, va_rf x2)]) (i := 3)) ?_
  refine ai (r_iconst (pc := 2) (by decide +kernel : decode k_P_Text_nearestClass.2.1 2 = .ok (.iconst 0, 1)) ic_0) ?_
  refine ai (e_istore (pc := 3) rfl (by decide +kernel : decode k_P_Text_nearestClass.2.1 3 = .ok (.istore 4, 2)) (by decide) rfl (ls2 := [(4, .int 0), (3, .int (-1)), (0, .ref a0), (1, .int x1), (2, va_rf x2)]) (i := 4)) ?_
  refine ai (r_iconst (pc := 5) (by decide +kernel : decode k_P_Text_nearestClass.2.1 5 = .ok (.iconst 0, 1)) ic_0) ?_
  refine ai (e_istore (pc := 6) rfl (by decide +kernel : decode k_P_Text_nearestClass.2.1 6 = .ok (.istore 5, 2)) (by decide) rfl (ls2 := [(5, .int 0), (4, .int 0), (3, .int (-1)), (0, .ref a0), (1, .int x1), (2, va_rf x2)]) (i := 5)) ?_
  exact (ai (r_sub [3, 4, 5, 2, 1, 0] rfl) (P_Text_nearestClass_8_run hL ht h))
set_option maxRecDepth 100000 in
set_option maxHeartbeats 4000000 in
theorem P_nearest_run {x1 : Int32} {x2 : Int32} {x3 : Int32} {x4 : Int32} {m m' : Mem} {r : Int32} (hL : PL m) (h : P_nearest x1 x2 x3 x4 m = some (r, m')) : Run k_P_nearest 0 [(0, .ref 0), (1, .int x1), (2, .int x2), (3, .int x3), (4, .int x4)] [] m (some (.int r)) m' ∧ PL m' := by
  unfold P_nearest at h
  refine ai (p_aload_n (pc := 0) (k := 0) (by decide +kernel : decode k_P_nearest.2.1 0 = .ok (.aload_n 0, 1)) rfl rfl) ?_
  refine ai (r_iload_n (pc := 1) (k := 1) (by decide +kernel : decode k_P_nearest.2.1 1 = .ok (.iload_n 1, 1)) rfl rfl) ?_
  refine ai (r_iload_n (pc := 2) (k := 2) (by decide +kernel : decode k_P_nearest.2.1 2 = .ok (.iload_n 2, 1)) rfl rfl) ?_
  refine ai (r_iload_n (pc := 3) (k := 3) (by decide +kernel : decode k_P_nearest.2.1 3 = .ok (.iload_n 3, 1)) rfl rfl) ?_
  refine ai (r_iload (pc := 4) (k := 4) (by decide +kernel : decode k_P_nearest.2.1 4 = .ok (.iload 4, 2)) rfl) ?_
  obtain ⟨r1, m2, hr1, h⟩ := bn_some h
  have q3 := P_reckoned_run hL hr1
  have c4 := (PC_0 hL).1
  have hL := q3.2
  refine ai (q_callV (pc := 6) (As := [.int x1, .int x2, .int x3, .int x4]) (st := []) (st2 := [.int r1]) (b := 0) rfl rfl (by decide +kernel : decode k_P_nearest.2.1 6 = .ok (.invokevirtual 263, 3)) lc_11_263 mo_P_reckoned ⟨Nat.le_of_ble_eq_true rfl, Nat.le_of_ble_eq_true rfl⟩ (Nat.le_of_ble_eq_true rfl) (Nat.le_of_ble_eq_true rfl) c4 q3.1) ?_
  rcases ite_some h with ⟨c5, h⟩ | ⟨c5, h⟩
  · refine ai (r_if_ne_f (pc := 9) 14 (by decide +kernel : decode k_P_nearest.2.1 9 = .ok (.ifCond .ne (5), 3)) (by decide) c5) ?_
    refine ai (r_iconst (pc := 12) (by decide +kernel : decode k_P_nearest.2.1 12 = .ok (.iconst (-1), 1)) ic_m1) ?_
    cases h
    exact ⟨r_iret rfl (by decide +kernel : decode k_P_nearest.2.1 13 = .ok (.ireturn, 1)), hL⟩
  · refine ai (r_if_ne_t (pc := 9) (tgt := 14) (by decide +kernel : decode k_P_nearest.2.1 9 = .ok (.ifCond .ne (5), 3)) (by decide) c5) ?_
    refine ai (p_aload_n (pc := 14) (k := 0) (by decide +kernel : decode k_P_nearest.2.1 14 = .ok (.aload_n 0, 1)) rfl rfl) ?_
    refine ai (p_getr (pc := 15) (PR_1413_0 hL) (by decide +kernel : decode k_P_nearest.2.1 15 = .ok (.getfield 60, 3)) lg_11_60 (PC_0 hL).1) ?_
    refine ai (p_getr (pc := 18) (PR_1034_28 hL) (by decide +kernel : decode k_P_nearest.2.1 18 = .ok (.getfield 269, 3)) lg_11_269 (PC_28 hL).1) ?_
    refine ai (r_iload_n (pc := 21) (k := 3) (by decide +kernel : decode k_P_nearest.2.1 21 = .ok (.iload_n 3, 1)) rfl rfl) ?_
    obtain ⟨g6, h⟩ := gd_some h
    refine ai (p_aald (pc := 22) (j := 1) (by decide) (by decide +kernel : decode k_P_nearest.2.1 22 = .ok (.aaload, 1)) (PC_33 hL).1 (PC_33 hL).2 g6) ?_
    refine ai (r_astore (pc := 23) (by decide +kernel : decode k_P_nearest.2.1 23 = .ok (.astore 5, 2)) (by decide) rfl (ls2 := [(5, va_rf (aR m2 33 (ix x3))), (0, .ref 0), (1, .int x1), (2, .int x2), (3, .int x3), (4, .int x4)]) (i := 5)) ?_
    refine ai (r_aload (pc := 25) (k := 0) (by decide +kernel : decode k_P_nearest.2.1 25 = .ok (.aload 5, 2)) rfl) ?_
    rcases ite_some h with ⟨c7, h⟩ | ⟨c7, h⟩
    · refine ai (d_ifnull_t (pc := 27) (tgt := 43) c7 (by decide +kernel : decode k_P_nearest.2.1 27 = .ok (.ifnull (16), 3)) (by decide)) ?_
      refine ai (r_iconst (pc := 43) (by decide +kernel : decode k_P_nearest.2.1 43 = .ok (.iconst (-1), 1)) ic_m1) ?_
      cases h
      exact ⟨r_iret rfl (by decide +kernel : decode k_P_nearest.2.1 44 = .ok (.ireturn, 1)), hL⟩
    · refine ai (d_ifnull_f (pc := 27) c7 (by decide +kernel : decode k_P_nearest.2.1 27 = .ok (.ifnull (16), 3))) ?_
      refine ai (p_aload_n (pc := 30) (k := 1) (by decide +kernel : decode k_P_nearest.2.1 30 = .ok (.aload_n 0, 1)) rfl rfl) ?_
      refine ai (p_getr (pc := 31) (PR_1413_0 hL) (by decide +kernel : decode k_P_nearest.2.1 31 = .ok (.getfield 60, 3)) lg_11_60 (PC_0 hL).1) ?_
      refine ai (p_getr (pc := 34) (PR_1035_28 hL) (by decide +kernel : decode k_P_nearest.2.1 34 = .ok (.getfield 273, 3)) lg_11_273 (PC_28 hL).1) ?_
      refine ai (r_iload_n (pc := 37) (k := 4) (by decide +kernel : decode k_P_nearest.2.1 37 = .ok (.iload_n 3, 1)) rfl rfl) ?_
      obtain ⟨g8, h⟩ := gd_some h
      refine ai (p_iald (pc := 38) (by decide +kernel : decode k_P_nearest.2.1 38 = .ok (.iaload, 1)) (PC_34 hL).1 (PC_34 hL).2 g8) ?_
      refine ai (r_iconst (pc := 39) (by decide +kernel : decode k_P_nearest.2.1 39 = .ok (.iconst (-1), 1)) ic_m1) ?_
      rcases ite_some h with ⟨c9, h⟩ | ⟨c9, h⟩
      · refine ai (r_icmp_eq_t (pc := 40) (tgt := 45) (by decide +kernel : decode k_P_nearest.2.1 40 = .ok (.if_icmp .eq (5), 3)) (by decide) c9) ?_
        obtain ⟨a10, o11, h⟩ := gs_some h
        refine ai (d_aload (pc := 45) (k := 0) o11 (by decide +kernel : decode k_P_nearest.2.1 45 = .ok (.aload 5, 2)) rfl) ?_
        refine ai (p_aload_n (pc := 47) (k := 1) (by decide +kernel : decode k_P_nearest.2.1 47 = .ok (.aload_n 0, 1)) rfl rfl) ?_
        refine ai (p_getr (pc := 48) (PR_1413_0 hL) (by decide +kernel : decode k_P_nearest.2.1 48 = .ok (.getfield 60, 3)) lg_11_60 (PC_0 hL).1) ?_
        refine ai (p_getr (pc := 51) (PR_1030_28 hL) (by decide +kernel : decode k_P_nearest.2.1 51 = .ok (.getfield 276, 3)) lg_11_276 (PC_28 hL).1) ?_
        refine ai (r_iload_n (pc := 54) (k := 4) (by decide +kernel : decode k_P_nearest.2.1 54 = .ok (.iload_n 3, 1)) rfl rfl) ?_
        obtain ⟨g12, h⟩ := gd_some h
        refine ai (p_iald (pc := 55) (by decide +kernel : decode k_P_nearest.2.1 55 = .ok (.iaload, 1)) (PC_30 hL).1 (PC_30 hL).2 g12) ?_
        refine ai (p_aload_n (pc := 56) (k := 1) (by decide +kernel : decode k_P_nearest.2.1 56 = .ok (.aload_n 0, 1)) rfl rfl) ?_
        refine ai (p_getr (pc := 57) (PR_1408_0 hL) (by decide +kernel : decode k_P_nearest.2.1 57 = .ok (.getfield 19, 3)) lg_11_19 (PC_0 hL).1) ?_
        refine ai (p_getr (pc := 60) (PR_392_5 hL) (by decide +kernel : decode k_P_nearest.2.1 60 = .ok (.getfield 135, 3)) lg_11_135 (PC_5 hL).1) ?_
        obtain ⟨t13, h⟩ := gt_some h
        obtain ⟨r14, m15, hr14, h⟩ := bn_some h
        have q16 := P_Text_nearestClass_run hL t13 hr14
        have hL := q16.2
        refine ai (q_callV (pc := 63) (As := [.int (aI m2 30 (ix x3)), .ref 11]) (st := []) (st2 := [.int r14]) (b := a10) rfl rfl (by decide +kernel : decode k_P_nearest.2.1 63 = .ok (.invokevirtual 278, 3)) lc_11_278 mo_P_Text_nearestClass ⟨Nat.le_of_ble_eq_true rfl, Nat.le_of_ble_eq_true rfl⟩ (Nat.le_of_ble_eq_true rfl) (Nat.le_of_ble_eq_true rfl) t13 q16.1) ?_
        cases h
        exact ⟨r_iret rfl (by decide +kernel : decode k_P_nearest.2.1 66 = .ok (.ireturn, 1)), hL⟩
      · refine ai (r_icmp_eq_f (pc := 40) 45 (by decide +kernel : decode k_P_nearest.2.1 40 = .ok (.if_icmp .eq (5), 3)) (by decide) c9) ?_
        refine ai (r_iconst (pc := 43) (by decide +kernel : decode k_P_nearest.2.1 43 = .ok (.iconst (-1), 1)) ic_m1) ?_
        cases h
        exact ⟨r_iret rfl (by decide +kernel : decode k_P_nearest.2.1 44 = .ok (.ireturn, 1)), hL⟩
set_option maxRecDepth 100000 in
set_option maxHeartbeats 4000000 in
theorem P_payer_run {x1 : Int32} {x2 : Int32} {x3 : Int32} {x4 : Int32} {m m' : Mem} {r : Int32} (hL : PL m) (h : P_payer x1 x2 x3 x4 m = some (r, m')) : Run k_P_payer 0 [(0, .ref 0), (1, .int x1), (2, .int x2), (3, .int x3), (4, .int x4)] [] m (some (.int r)) m' ∧ PL m' := by
  unfold P_payer at h
  refine ai (p_aload_n (pc := 0) (k := 0) (by decide +kernel : decode k_P_payer.2.1 0 = .ok (.aload_n 0, 1)) rfl rfl) ?_
  refine ai (r_iload_n (pc := 1) (k := 1) (by decide +kernel : decode k_P_payer.2.1 1 = .ok (.iload_n 1, 1)) rfl rfl) ?_
  refine ai (r_iload_n (pc := 2) (k := 2) (by decide +kernel : decode k_P_payer.2.1 2 = .ok (.iload_n 2, 1)) rfl rfl) ?_
  refine ai (r_iload_n (pc := 3) (k := 3) (by decide +kernel : decode k_P_payer.2.1 3 = .ok (.iload_n 3, 1)) rfl rfl) ?_
  refine ai (r_iload (pc := 4) (k := 4) (by decide +kernel : decode k_P_payer.2.1 4 = .ok (.iload 4, 2)) rfl) ?_
  obtain ⟨r1, m2, hr1, h⟩ := bn_some h
  have q3 := P_reckoned_run hL hr1
  have c4 := (PC_0 hL).1
  have hL := q3.2
  refine ai (q_callV (pc := 6) (As := [.int x1, .int x2, .int x3, .int x4]) (st := []) (st2 := [.int r1]) (b := 0) rfl rfl (by decide +kernel : decode k_P_payer.2.1 6 = .ok (.invokevirtual 263, 3)) lc_11_263 mo_P_reckoned ⟨Nat.le_of_ble_eq_true rfl, Nat.le_of_ble_eq_true rfl⟩ (Nat.le_of_ble_eq_true rfl) (Nat.le_of_ble_eq_true rfl) c4 q3.1) ?_
  rcases ite_some h with ⟨c5, h⟩ | ⟨c5, h⟩
  · refine ai (r_if_ne_f (pc := 9) 14 (by decide +kernel : decode k_P_payer.2.1 9 = .ok (.ifCond .ne (5), 3)) (by decide) c5) ?_
    refine ai (r_iconst (pc := 12) (by decide +kernel : decode k_P_payer.2.1 12 = .ok (.iconst (-1), 1)) ic_m1) ?_
    cases h
    exact ⟨r_iret rfl (by decide +kernel : decode k_P_payer.2.1 13 = .ok (.ireturn, 1)), hL⟩
  · refine ai (r_if_ne_t (pc := 9) (tgt := 14) (by decide +kernel : decode k_P_payer.2.1 9 = .ok (.ifCond .ne (5), 3)) (by decide) c5) ?_
    refine ai (p_aload_n (pc := 14) (k := 0) (by decide +kernel : decode k_P_payer.2.1 14 = .ok (.aload_n 0, 1)) rfl rfl) ?_
    refine ai (p_getr (pc := 15) (PR_1413_0 hL) (by decide +kernel : decode k_P_payer.2.1 15 = .ok (.getfield 60, 3)) lg_11_60 (PC_0 hL).1) ?_
    refine ai (p_getr (pc := 18) (PR_1038_28 hL) (by decide +kernel : decode k_P_payer.2.1 18 = .ok (.getfield 282, 3)) lg_11_282 (PC_28 hL).1) ?_
    refine ai (r_iload_n (pc := 21) (k := 3) (by decide +kernel : decode k_P_payer.2.1 21 = .ok (.iload_n 3, 1)) rfl rfl) ?_
    obtain ⟨g6, h⟩ := gd_some h
    refine ai (p_aald (pc := 22) (j := 1) (by decide) (by decide +kernel : decode k_P_payer.2.1 22 = .ok (.aaload, 1)) (PC_37 hL).1 (PC_37 hL).2 g6) ?_
    refine ai (r_astore (pc := 23) (by decide +kernel : decode k_P_payer.2.1 23 = .ok (.astore 5, 2)) (by decide) rfl (ls2 := [(5, va_rf (aR m2 37 (ix x3))), (0, .ref 0), (1, .int x1), (2, .int x2), (3, .int x3), (4, .int x4)]) (i := 5)) ?_
    refine ai (r_aload (pc := 25) (k := 0) (by decide +kernel : decode k_P_payer.2.1 25 = .ok (.aload 5, 2)) rfl) ?_
    rcases ite_some h with ⟨c7, h⟩ | ⟨c7, h⟩
    · refine ai (d_ifnonnull_f (pc := 27) c7 (by decide +kernel : decode k_P_payer.2.1 27 = .ok (.ifnonnull (7), 3))) ?_
      refine ai (r_iconst (pc := 30) (by decide +kernel : decode k_P_payer.2.1 30 = .ok (.iconst (-1), 1)) ic_m1) ?_
      refine ai (r_goto (pc := 31) (tgt := 39) (by decide +kernel : decode k_P_payer.2.1 31 = .ok (.goto (8), 3)) (by decide)) ?_
      cases h
      exact ⟨r_iret rfl (by decide +kernel : decode k_P_payer.2.1 39 = .ok (.ireturn, 1)), hL⟩
    · refine ai (d_ifnonnull_t (pc := 27) (tgt := 34) c7 (by decide +kernel : decode k_P_payer.2.1 27 = .ok (.ifnonnull (7), 3)) (by decide)) ?_
      obtain ⟨a8, o9, h⟩ := gs_some h
      refine ai (d_aload (pc := 34) (k := 0) o9 (by decide +kernel : decode k_P_payer.2.1 34 = .ok (.aload 5, 2)) rfl) ?_
      obtain ⟨t10, h⟩ := gt_some h
      refine ai (r_getI (pc := 36) (by decide +kernel : decode k_P_payer.2.1 36 = .ok (.getfield 285, 3)) lg_11_285 (by decide) t10) ?_
      cases h
      exact ⟨r_iret rfl (by decide +kernel : decode k_P_payer.2.1 39 = .ok (.ireturn, 1)), hL⟩
set_option maxRecDepth 100000 in
set_option maxHeartbeats 4000000 in
theorem P_Reckoning_repeat_47_run {x1 : Int32} {s0 : Int32} {s1 : Option Nat} {m m' : Mem} {r : Unit} (hL : PL m) (h : P_Reckoning_repeat_47 x1 s0 s1 m = some (r, m')) : Run k_P_Reckoning_repeat 47 [(1, .int x1)] [.int s0, va_rf s1, .ref 28] m none m' ∧ PL m' := by
  unfold P_Reckoning_repeat_47 at h
  refine ai (r_iload_n (pc := 47) (k := 0) (by decide +kernel : decode k_P_Reckoning_repeat.2.1 47 = .ok (.iload_n 1, 1)) rfl rfl) ?_
  obtain ⟨r1, m2, hr1, h⟩ := bn_some h
  have q3 := P_Reckoning_worthBy_run hL hr1
  have c4 := (PC_28 hL).1
  have hL := q3.2
  refine ai (q_callV (pc := 48) (As := [va_rf s1, .int s0, .int x1]) (st := []) (st2 := [.int r1]) (b := 28) (by simp [lv_args, vrc, vrs, cti, ctr, ctl, ctn, cta]) rfl (by decide +kernel : decode k_P_Reckoning_repeat.2.1 48 = .ok (.invokevirtual 272, 3)) lc_8_272 mo_P_Reckoning_worthBy ⟨Nat.le_of_ble_eq_true rfl, Nat.le_of_ble_eq_true rfl⟩ (by simp [lg_sl, vrc, vrs, cti, ctr, ctl, ctn, cta, k_P_Reckoning_worthBy]) (Nat.le_of_ble_eq_true rfl) c4 q3.1) ?_
  refine ai (r_pop (pc := 51) (by decide +kernel : decode k_P_Reckoning_repeat.2.1 51 = .ok (.pop, 1)) (rfl)) ?_
  cases h
  exact ⟨r_vret rfl (by decide +kernel : decode k_P_Reckoning_repeat.2.1 52 = .ok (.return_, 1)), hL⟩
set_option maxRecDepth 100000 in
set_option maxHeartbeats 4000000 in
theorem P_Reckoning_repeat_20_run {x1 : Int32} {s0 : Int32} {m m' : Mem} {r : Unit} (hL : PL m) (h : P_Reckoning_repeat_20 x1 s0 m = some (r, m')) : Run k_P_Reckoning_repeat 20 [(0, .ref 28), (1, .int x1)] [.int s0] m none m' ∧ PL m' := by
  unfold P_Reckoning_repeat_20 at h
  refine ai (e_istore_n (pc := 20) rfl (by decide +kernel : decode k_P_Reckoning_repeat.2.1 20 = .ok (.istore_n 2, 1)) rfl (by decide) rfl (ls2 := [(2, .int s0), (0, .ref 28), (1, .int x1)]) (i := 2)) ?_
  refine ai (p_aload_n (pc := 21) (k := 1) (by decide +kernel : decode k_P_Reckoning_repeat.2.1 21 = .ok (.aload_n 0, 1)) rfl rfl) ?_
  refine ai (p_aload_n (pc := 22) (k := 1) (by decide +kernel : decode k_P_Reckoning_repeat.2.1 22 = .ok (.aload_n 0, 1)) rfl rfl) ?_
  refine ai (p_getr (pc := 23) (PR_1038_28 hL) (by decide +kernel : decode k_P_Reckoning_repeat.2.1 23 = .ok (.getfield 42, 3)) lg_8_42 (PC_28 hL).1) ?_
  refine ai (r_iload_n (pc := 26) (k := 2) (by decide +kernel : decode k_P_Reckoning_repeat.2.1 26 = .ok (.iload_n 1, 1)) rfl rfl) ?_
  obtain ⟨g1, h⟩ := gd_some h
  refine ai (p_aald (pc := 27) (j := 1) (by decide) (by decide +kernel : decode k_P_Reckoning_repeat.2.1 27 = .ok (.aaload, 1)) (PC_37 hL).1 (PC_37 hL).2 g1) ?_
  refine ai (r_iload_n (pc := 28) (k := 0) (by decide +kernel : decode k_P_Reckoning_repeat.2.1 28 = .ok (.iload_n 2, 1)) rfl rfl) ?_
  rcases ite_some h with ⟨c2, h⟩ | ⟨c2, h⟩
  · refine ai (r_if_eq_t (pc := 29) (tgt := 41) (by decide +kernel : decode k_P_Reckoning_repeat.2.1 29 = .ok (.ifCond .eq (12), 3)) (by decide) c2) ?_
    refine ai (p_aload_n (pc := 41) (k := 1) (by decide +kernel : decode k_P_Reckoning_repeat.2.1 41 = .ok (.aload_n 0, 1)) rfl rfl) ?_
    refine ai (p_getr (pc := 42) (PR_1037_28 hL) (by decide +kernel : decode k_P_Reckoning_repeat.2.1 42 = .ok (.getfield 39, 3)) lg_8_39 (PC_28 hL).1) ?_
    refine ai (r_iload_n (pc := 45) (k := 2) (by decide +kernel : decode k_P_Reckoning_repeat.2.1 45 = .ok (.iload_n 1, 1)) rfl rfl) ?_
    obtain ⟨g3, h⟩ := gd_some h
    refine ai (p_iald (pc := 46) (by decide +kernel : decode k_P_Reckoning_repeat.2.1 46 = .ok (.iaload, 1)) (PC_36 hL).1 (PC_36 hL).2 g3) ?_
    exact (ai (r_sub [2] rfl) (P_Reckoning_repeat_47_run hL h))
  · refine ai (r_if_eq_f (pc := 29) 41 (by decide +kernel : decode k_P_Reckoning_repeat.2.1 29 = .ok (.ifCond .eq (12), 3)) (by decide) c2) ?_
    refine ai (p_aload_n (pc := 32) (k := 1) (by decide +kernel : decode k_P_Reckoning_repeat.2.1 32 = .ok (.aload_n 0, 1)) rfl rfl) ?_
    refine ai (p_getr (pc := 33) (PR_1035_28 hL) (by decide +kernel : decode k_P_Reckoning_repeat.2.1 33 = .ok (.getfield 33, 3)) lg_8_33 (PC_28 hL).1) ?_
    refine ai (r_iload_n (pc := 36) (k := 2) (by decide +kernel : decode k_P_Reckoning_repeat.2.1 36 = .ok (.iload_n 1, 1)) rfl rfl) ?_
    obtain ⟨g4, h⟩ := gd_some h
    refine ai (p_iald (pc := 37) (by decide +kernel : decode k_P_Reckoning_repeat.2.1 37 = .ok (.iaload, 1)) (PC_34 hL).1 (PC_34 hL).2 g4) ?_
    refine ai (r_goto (pc := 38) (tgt := 47) (by decide +kernel : decode k_P_Reckoning_repeat.2.1 38 = .ok (.goto (9), 3)) (by decide)) ?_
    exact (ai (r_sub [2] rfl) (P_Reckoning_repeat_47_run hL h))
set_option maxRecDepth 100000 in
set_option maxHeartbeats 4000000 in
theorem P_Reckoning_repeat_run {x1 : Int32} {m m' : Mem} {r : Unit} (hL : PL m) (h : P_Reckoning_repeat x1 m = some (r, m')) : Run k_P_Reckoning_repeat 0 [(0, .ref 28), (1, .int x1)] [] m none m' ∧ PL m' := by
  unfold P_Reckoning_repeat at h
  refine ai (p_aload_n (pc := 0) (k := 0) (by decide +kernel : decode k_P_Reckoning_repeat.2.1 0 = .ok (.aload_n 0, 1)) rfl rfl) ?_
  refine ai (p_getr (pc := 1) (PR_1038_28 hL) (by decide +kernel : decode k_P_Reckoning_repeat.2.1 1 = .ok (.getfield 42, 3)) lg_8_42 (PC_28 hL).1) ?_
  refine ai (r_iload_n (pc := 4) (k := 1) (by decide +kernel : decode k_P_Reckoning_repeat.2.1 4 = .ok (.iload_n 1, 1)) rfl rfl) ?_
  obtain ⟨g1, h⟩ := gd_some h
  refine ai (p_aald (pc := 5) (j := 1) (by decide) (by decide +kernel : decode k_P_Reckoning_repeat.2.1 5 = .ok (.aaload, 1)) (PC_37 hL).1 (PC_37 hL).2 g1) ?_
  refine ai (p_aload_n (pc := 6) (k := 0) (by decide +kernel : decode k_P_Reckoning_repeat.2.1 6 = .ok (.aload_n 0, 1)) rfl rfl) ?_
  refine ai (p_getr (pc := 7) (PR_1034_28 hL) (by decide +kernel : decode k_P_Reckoning_repeat.2.1 7 = .ok (.getfield 29, 3)) lg_8_29 (PC_28 hL).1) ?_
  refine ai (r_iload_n (pc := 10) (k := 1) (by decide +kernel : decode k_P_Reckoning_repeat.2.1 10 = .ok (.iload_n 1, 1)) rfl rfl) ?_
  obtain ⟨g2, h⟩ := gd_some h
  refine ai (p_aald (pc := 11) (j := 1) (by decide) (by decide +kernel : decode k_P_Reckoning_repeat.2.1 11 = .ok (.aaload, 1)) (PC_33 hL).1 (PC_33 hL).2 g2) ?_
  rcases ite_some h with ⟨c3, h⟩ | ⟨c3, h⟩
  · refine ai (r_acmp_ne_f (pc := 12) (rx := aR m 37 (ix x1)) (ry := aR m 33 (ix x1)) 19 (by decide +kernel : decode k_P_Reckoning_repeat.2.1 12 = .ok (.if_acmp .ne (7), 3)) (by decide) c3) ?_
    refine ai (r_iconst (pc := 15) (by decide +kernel : decode k_P_Reckoning_repeat.2.1 15 = .ok (.iconst 1, 1)) ic_1) ?_
    refine ai (r_goto (pc := 16) (tgt := 20) (by decide +kernel : decode k_P_Reckoning_repeat.2.1 16 = .ok (.goto (4), 3)) (by decide)) ?_
    exact (P_Reckoning_repeat_20_run hL h)
  · refine ai (r_acmp_ne_t (pc := 12) (tgt := 19) (rx := aR m 37 (ix x1)) (ry := aR m 33 (ix x1)) (by decide +kernel : decode k_P_Reckoning_repeat.2.1 12 = .ok (.if_acmp .ne (7), 3)) (by decide) c3) ?_
    refine ai (r_iconst (pc := 19) (by decide +kernel : decode k_P_Reckoning_repeat.2.1 19 = .ok (.iconst 0, 1)) ic_0) ?_
    exact (P_Reckoning_repeat_20_run hL h)
set_option maxRecDepth 100000 in
set_option maxHeartbeats 4000000 in
theorem P_rate_run {x1 : Int32} {x2 : Int32} {x3 : Int32} {x4 : Int32} {m m' : Mem} {r : Int32} (hL : PL m) (h : P_rate x1 x2 x3 x4 m = some (r, m')) : Run k_P_rate 0 [(0, .ref 0), (1, .int x1), (2, .int x2), (3, .int x3), (4, .int x4)] [] m (some (.int r)) m' ∧ PL m' := by
  unfold P_rate at h
  refine ai (p_aload_n (pc := 0) (k := 0) (by decide +kernel : decode k_P_rate.2.1 0 = .ok (.aload_n 0, 1)) rfl rfl) ?_
  refine ai (r_iload_n (pc := 1) (k := 1) (by decide +kernel : decode k_P_rate.2.1 1 = .ok (.iload_n 1, 1)) rfl rfl) ?_
  refine ai (r_iload_n (pc := 2) (k := 2) (by decide +kernel : decode k_P_rate.2.1 2 = .ok (.iload_n 2, 1)) rfl rfl) ?_
  refine ai (r_iload_n (pc := 3) (k := 3) (by decide +kernel : decode k_P_rate.2.1 3 = .ok (.iload_n 3, 1)) rfl rfl) ?_
  refine ai (r_iload (pc := 4) (k := 4) (by decide +kernel : decode k_P_rate.2.1 4 = .ok (.iload 4, 2)) rfl) ?_
  obtain ⟨r1, m2, hr1, h⟩ := bn_some h
  have q3 := P_reckoned_run hL hr1
  have c4 := (PC_0 hL).1
  have hL := q3.2
  refine ai (q_callV (pc := 6) (As := [.int x1, .int x2, .int x3, .int x4]) (st := []) (st2 := [.int r1]) (b := 0) rfl rfl (by decide +kernel : decode k_P_rate.2.1 6 = .ok (.invokevirtual 263, 3)) lc_11_263 mo_P_reckoned ⟨Nat.le_of_ble_eq_true rfl, Nat.le_of_ble_eq_true rfl⟩ (Nat.le_of_ble_eq_true rfl) (Nat.le_of_ble_eq_true rfl) c4 q3.1) ?_
  rcases ite_some h with ⟨c5, h⟩ | ⟨c5, h⟩
  · refine ai (r_if_eq_t (pc := 9) (tgt := 24) (by decide +kernel : decode k_P_rate.2.1 9 = .ok (.ifCond .eq (15), 3)) (by decide) c5) ?_
    refine ai (r_iconst (pc := 24) (by decide +kernel : decode k_P_rate.2.1 24 = .ok (.iconst (-1), 1)) ic_m1) ?_
    cases h
    exact ⟨r_iret rfl (by decide +kernel : decode k_P_rate.2.1 25 = .ok (.ireturn, 1)), hL⟩
  · refine ai (r_if_eq_f (pc := 9) 24 (by decide +kernel : decode k_P_rate.2.1 9 = .ok (.ifCond .eq (15), 3)) (by decide) c5) ?_
    refine ai (p_aload_n (pc := 12) (k := 0) (by decide +kernel : decode k_P_rate.2.1 12 = .ok (.aload_n 0, 1)) rfl rfl) ?_
    refine ai (p_getr (pc := 13) (PR_1413_0 hL) (by decide +kernel : decode k_P_rate.2.1 13 = .ok (.getfield 60, 3)) lg_11_60 (PC_0 hL).1) ?_
    refine ai (p_getr (pc := 16) (PR_1038_28 hL) (by decide +kernel : decode k_P_rate.2.1 16 = .ok (.getfield 282, 3)) lg_11_282 (PC_28 hL).1) ?_
    refine ai (r_iload_n (pc := 19) (k := 3) (by decide +kernel : decode k_P_rate.2.1 19 = .ok (.iload_n 3, 1)) rfl rfl) ?_
    obtain ⟨g6, h⟩ := gd_some h
    refine ai (p_aald (pc := 20) (j := 1) (by decide) (by decide +kernel : decode k_P_rate.2.1 20 = .ok (.aaload, 1)) (PC_37 hL).1 (PC_37 hL).2 g6) ?_
    rcases ite_some h with ⟨c7, h⟩ | ⟨c7, h⟩
    · refine ai (d_ifnonnull_f (pc := 21) c7 (by decide +kernel : decode k_P_rate.2.1 21 = .ok (.ifnonnull (5), 3))) ?_
      refine ai (r_iconst (pc := 24) (by decide +kernel : decode k_P_rate.2.1 24 = .ok (.iconst (-1), 1)) ic_m1) ?_
      cases h
      exact ⟨r_iret rfl (by decide +kernel : decode k_P_rate.2.1 25 = .ok (.ireturn, 1)), hL⟩
    · refine ai (d_ifnonnull_t (pc := 21) (tgt := 26) c7 (by decide +kernel : decode k_P_rate.2.1 21 = .ok (.ifnonnull (5), 3)) (by decide)) ?_
      refine ai (p_aload_n (pc := 26) (k := 0) (by decide +kernel : decode k_P_rate.2.1 26 = .ok (.aload_n 0, 1)) rfl rfl) ?_
      refine ai (p_getr (pc := 27) (PR_1413_0 hL) (by decide +kernel : decode k_P_rate.2.1 27 = .ok (.getfield 60, 3)) lg_11_60 (PC_0 hL).1) ?_
      refine ai (r_iload_n (pc := 30) (k := 3) (by decide +kernel : decode k_P_rate.2.1 30 = .ok (.iload_n 3, 1)) rfl rfl) ?_
      obtain ⟨r8, m9, hr8, h⟩ := bn_some h
      have q10 := P_Reckoning_repeat_run hL hr8
      have c11 := (PC_28 hL).1
      have hL := q10.2
      refine ai (q_callV (pc := 31) (As := [.int x3]) (st := []) (st2 := []) (b := 28) rfl rfl (by decide +kernel : decode k_P_rate.2.1 31 = .ok (.invokevirtual 288, 3)) lc_11_288 mo_P_Reckoning_repeat ⟨Nat.le_of_ble_eq_true rfl, Nat.le_of_ble_eq_true rfl⟩ (Nat.le_of_ble_eq_true rfl) (Nat.le_of_ble_eq_true rfl) c11 q10.1) ?_
      refine ai (p_aload_n (pc := 34) (k := 0) (by decide +kernel : decode k_P_rate.2.1 34 = .ok (.aload_n 0, 1)) rfl rfl) ?_
      refine ai (p_getr (pc := 35) (PR_1413_0 hL) (by decide +kernel : decode k_P_rate.2.1 35 = .ok (.getfield 60, 3)) lg_11_60 (PC_0 hL).1) ?_
      refine ai (r_getI (pc := 38) (by decide +kernel : decode k_P_rate.2.1 38 = .ok (.getfield 291, 3)) lg_11_291 (by decide) (PC_28 hL).1) ?_
      cases h
      exact ⟨r_iret rfl (by decide +kernel : decode k_P_rate.2.1 41 = .ok (.ireturn, 1)), hL⟩
set_option maxRecDepth 100000 in
set_option maxHeartbeats 4000000 in
theorem P_counted_run {x1 : Int32} {x2 : Int32} {x3 : Int32} {x4 : Int32} {x5 : Int32} {m m' : Mem} {r : Int32} (hL : PL m) (h : P_counted x1 x2 x3 x4 x5 m = some (r, m')) : Run k_P_counted 0 [(0, .ref 0), (1, .int x1), (2, .int x2), (3, .int x3), (4, .int x4), (5, .int x5)] [] m (some (.int r)) m' ∧ PL m' := by
  unfold P_counted at h
  refine ai (p_aload_n (pc := 0) (k := 0) (by decide +kernel : decode k_P_counted.2.1 0 = .ok (.aload_n 0, 1)) rfl rfl) ?_
  refine ai (r_iload_n (pc := 1) (k := 1) (by decide +kernel : decode k_P_counted.2.1 1 = .ok (.iload_n 1, 1)) rfl rfl) ?_
  refine ai (r_iload_n (pc := 2) (k := 2) (by decide +kernel : decode k_P_counted.2.1 2 = .ok (.iload_n 2, 1)) rfl rfl) ?_
  refine ai (r_iload_n (pc := 3) (k := 3) (by decide +kernel : decode k_P_counted.2.1 3 = .ok (.iload_n 3, 1)) rfl rfl) ?_
  refine ai (r_iload (pc := 4) (k := 5) (by decide +kernel : decode k_P_counted.2.1 4 = .ok (.iload 5, 2)) rfl) ?_
  obtain ⟨r1, m2, hr1, h⟩ := bn_some h
  have q3 := P_reckoned_run hL hr1
  have c4 := (PC_0 hL).1
  have hL := q3.2
  refine ai (q_callV (pc := 6) (As := [.int x1, .int x2, .int x3, .int x5]) (st := []) (st2 := [.int r1]) (b := 0) rfl rfl (by decide +kernel : decode k_P_counted.2.1 6 = .ok (.invokevirtual 263, 3)) lc_11_263 mo_P_reckoned ⟨Nat.le_of_ble_eq_true rfl, Nat.le_of_ble_eq_true rfl⟩ (Nat.le_of_ble_eq_true rfl) (Nat.le_of_ble_eq_true rfl) c4 q3.1) ?_
  rcases ite_some h with ⟨c5, h⟩ | ⟨c5, h⟩
  · refine ai (r_if_eq_t (pc := 9) (tgt := 24) (by decide +kernel : decode k_P_counted.2.1 9 = .ok (.ifCond .eq (15), 3)) (by decide) c5) ?_
    refine ai (r_iconst (pc := 24) (by decide +kernel : decode k_P_counted.2.1 24 = .ok (.iconst (-1), 1)) ic_m1) ?_
    cases h
    exact ⟨r_iret rfl (by decide +kernel : decode k_P_counted.2.1 25 = .ok (.ireturn, 1)), hL⟩
  · refine ai (r_if_eq_f (pc := 9) 24 (by decide +kernel : decode k_P_counted.2.1 9 = .ok (.ifCond .eq (15), 3)) (by decide) c5) ?_
    refine ai (p_aload_n (pc := 12) (k := 0) (by decide +kernel : decode k_P_counted.2.1 12 = .ok (.aload_n 0, 1)) rfl rfl) ?_
    refine ai (p_getr (pc := 13) (PR_1413_0 hL) (by decide +kernel : decode k_P_counted.2.1 13 = .ok (.getfield 60, 3)) lg_11_60 (PC_0 hL).1) ?_
    refine ai (p_getr (pc := 16) (PR_1038_28 hL) (by decide +kernel : decode k_P_counted.2.1 16 = .ok (.getfield 282, 3)) lg_11_282 (PC_28 hL).1) ?_
    refine ai (r_iload_n (pc := 19) (k := 3) (by decide +kernel : decode k_P_counted.2.1 19 = .ok (.iload_n 3, 1)) rfl rfl) ?_
    obtain ⟨g6, h⟩ := gd_some h
    refine ai (p_aald (pc := 20) (j := 1) (by decide) (by decide +kernel : decode k_P_counted.2.1 20 = .ok (.aaload, 1)) (PC_37 hL).1 (PC_37 hL).2 g6) ?_
    rcases ite_some h with ⟨c7, h⟩ | ⟨c7, h⟩
    · refine ai (d_ifnonnull_f (pc := 21) c7 (by decide +kernel : decode k_P_counted.2.1 21 = .ok (.ifnonnull (5), 3))) ?_
      refine ai (r_iconst (pc := 24) (by decide +kernel : decode k_P_counted.2.1 24 = .ok (.iconst (-1), 1)) ic_m1) ?_
      cases h
      exact ⟨r_iret rfl (by decide +kernel : decode k_P_counted.2.1 25 = .ok (.ireturn, 1)), hL⟩
    · refine ai (d_ifnonnull_t (pc := 21) (tgt := 26) c7 (by decide +kernel : decode k_P_counted.2.1 21 = .ok (.ifnonnull (5), 3)) (by decide)) ?_
      refine ai (p_aload_n (pc := 26) (k := 0) (by decide +kernel : decode k_P_counted.2.1 26 = .ok (.aload_n 0, 1)) rfl rfl) ?_
      refine ai (p_getr (pc := 27) (PR_1413_0 hL) (by decide +kernel : decode k_P_counted.2.1 27 = .ok (.getfield 60, 3)) lg_11_60 (PC_0 hL).1) ?_
      refine ai (r_iload_n (pc := 30) (k := 3) (by decide +kernel : decode k_P_counted.2.1 30 = .ok (.iload_n 3, 1)) rfl rfl) ?_
      obtain ⟨r8, m9, hr8, h⟩ := bn_some h
      have q10 := P_Reckoning_repeat_run hL hr8
      have c11 := (PC_28 hL).1
      have hL := q10.2
      refine ai (q_callV (pc := 31) (As := [.int x3]) (st := []) (st2 := []) (b := 28) rfl rfl (by decide +kernel : decode k_P_counted.2.1 31 = .ok (.invokevirtual 288, 3)) lc_11_288 mo_P_Reckoning_repeat ⟨Nat.le_of_ble_eq_true rfl, Nat.le_of_ble_eq_true rfl⟩ (Nat.le_of_ble_eq_true rfl) (Nat.le_of_ble_eq_true rfl) c11 q10.1) ?_
      refine ai (r_iload (pc := 34) (k := 4) (by decide +kernel : decode k_P_counted.2.1 34 = .ok (.iload 4, 2)) rfl) ?_
      refine ai (r_iconst (pc := 36) (by decide +kernel : decode k_P_counted.2.1 36 = .ok (.iconst 0, 1)) ic_0) ?_
      refine ai (p_aload_n (pc := 37) (k := 0) (by decide +kernel : decode k_P_counted.2.1 37 = .ok (.aload_n 0, 1)) rfl rfl) ?_
      refine ai (p_getr (pc := 38) (PR_1413_0 hL) (by decide +kernel : decode k_P_counted.2.1 38 = .ok (.getfield 60, 3)) lg_11_60 (PC_0 hL).1) ?_
      refine ai (r_getI (pc := 41) (by decide +kernel : decode k_P_counted.2.1 41 = .ok (.getfield 294, 3)) lg_11_294 (by decide) (PC_28 hL).1) ?_
      refine ai (r_iconst (pc := 44) (by decide +kernel : decode k_P_counted.2.1 44 = .ok (.iconst 1, 1)) ic_1) ?_
      refine ai (r_isub (pc := 45) (by decide +kernel : decode k_P_counted.2.1 45 = .ok (.isub, 1))) ?_
      obtain ⟨r12, hr12, h⟩ := bp_some h
      refine ai (q_callS (pc := 46) (As := [.int x4, .int 0, .int ((mI m9 1043 28) - 1)]) (st := []) (st2 := [.int r12]) rfl rfl (by decide +kernel : decode k_P_counted.2.1 46 = .ok (.invokestatic 117, 3)) lc_11_117 mo_P_within ⟨Nat.le_of_ble_eq_true rfl, Nat.le_of_ble_eq_true rfl⟩ (Nat.le_of_ble_eq_true rfl) (Nat.le_of_ble_eq_true rfl) (P_within_run hr12)) ?_
      rcases ite_some h with ⟨c13, h⟩ | ⟨c13, h⟩
      · refine ai (r_if_eq_t (pc := 49) (tgt := 65) (by decide +kernel : decode k_P_counted.2.1 49 = .ok (.ifCond .eq (16), 3)) (by decide) c13) ?_
        refine ai (r_iconst (pc := 65) (by decide +kernel : decode k_P_counted.2.1 65 = .ok (.iconst (-1), 1)) ic_m1) ?_
        cases h
        exact ⟨r_iret rfl (by decide +kernel : decode k_P_counted.2.1 66 = .ok (.ireturn, 1)), hL⟩
      · refine ai (r_if_eq_f (pc := 49) 65 (by decide +kernel : decode k_P_counted.2.1 49 = .ok (.ifCond .eq (16), 3)) (by decide) c13) ?_
        refine ai (p_aload_n (pc := 52) (k := 0) (by decide +kernel : decode k_P_counted.2.1 52 = .ok (.aload_n 0, 1)) rfl rfl) ?_
        refine ai (p_getr (pc := 53) (PR_1413_0 hL) (by decide +kernel : decode k_P_counted.2.1 53 = .ok (.getfield 60, 3)) lg_11_60 (PC_0 hL).1) ?_
        refine ai (p_getr (pc := 56) (PR_1042_28 hL) (by decide +kernel : decode k_P_counted.2.1 56 = .ok (.getfield 297, 3)) lg_11_297 (PC_28 hL).1) ?_
        refine ai (r_iload (pc := 59) (k := 4) (by decide +kernel : decode k_P_counted.2.1 59 = .ok (.iload 4, 2)) rfl) ?_
        obtain ⟨g14, h⟩ := gd_some h
        refine ai (p_iald (pc := 61) (by decide +kernel : decode k_P_counted.2.1 61 = .ok (.iaload, 1)) (PC_40 hL).1 (PC_40 hL).2 g14) ?_
        refine ai (r_goto (pc := 62) (tgt := 66) (by decide +kernel : decode k_P_counted.2.1 62 = .ok (.goto (4), 3)) (by decide)) ?_
        cases h
        exact ⟨r_iret rfl (by decide +kernel : decode k_P_counted.2.1 66 = .ok (.ireturn, 1)), hL⟩
set_option maxRecDepth 100000 in
set_option maxHeartbeats 4000000 in
theorem P_worth_run {x1 : Int32} {x2 : Int32} {x3 : Int32} {x4 : Int32} {m m' : Mem} {r : Int32} (hL : PL m) (h : P_worth x1 x2 x3 x4 m = some (r, m')) : Run k_P_worth 0 [(0, .ref 0), (1, .int x1), (2, .int x2), (3, .int x3), (4, .int x4)] [] m (some (.int r)) m' ∧ PL m' := by
  unfold P_worth at h
  refine ai (p_aload_n (pc := 0) (k := 0) (by decide +kernel : decode k_P_worth.2.1 0 = .ok (.aload_n 0, 1)) rfl rfl) ?_
  refine ai (r_iload_n (pc := 1) (k := 1) (by decide +kernel : decode k_P_worth.2.1 1 = .ok (.iload_n 1, 1)) rfl rfl) ?_
  refine ai (r_iload_n (pc := 2) (k := 2) (by decide +kernel : decode k_P_worth.2.1 2 = .ok (.iload_n 2, 1)) rfl rfl) ?_
  refine ai (r_iload_n (pc := 3) (k := 3) (by decide +kernel : decode k_P_worth.2.1 3 = .ok (.iload_n 3, 1)) rfl rfl) ?_
  refine ai (r_iload (pc := 4) (k := 4) (by decide +kernel : decode k_P_worth.2.1 4 = .ok (.iload 4, 2)) rfl) ?_
  obtain ⟨r1, m2, hr1, h⟩ := bn_some h
  have q3 := P_reckoned_run hL hr1
  have c4 := (PC_0 hL).1
  have hL := q3.2
  refine ai (q_callV (pc := 6) (As := [.int x1, .int x2, .int x3, .int x4]) (st := []) (st2 := [.int r1]) (b := 0) rfl rfl (by decide +kernel : decode k_P_worth.2.1 6 = .ok (.invokevirtual 263, 3)) lc_11_263 mo_P_reckoned ⟨Nat.le_of_ble_eq_true rfl, Nat.le_of_ble_eq_true rfl⟩ (Nat.le_of_ble_eq_true rfl) (Nat.le_of_ble_eq_true rfl) c4 q3.1) ?_
  rcases ite_some h with ⟨c5, h⟩ | ⟨c5, h⟩
  · refine ai (r_if_eq_t (pc := 9) (tgt := 24) (by decide +kernel : decode k_P_worth.2.1 9 = .ok (.ifCond .eq (15), 3)) (by decide) c5) ?_
    refine ai (r_iconst (pc := 24) (by decide +kernel : decode k_P_worth.2.1 24 = .ok (.iconst 0, 1)) ic_0) ?_
    cases h
    exact ⟨r_iret rfl (by decide +kernel : decode k_P_worth.2.1 25 = .ok (.ireturn, 1)), hL⟩
  · refine ai (r_if_eq_f (pc := 9) 24 (by decide +kernel : decode k_P_worth.2.1 9 = .ok (.ifCond .eq (15), 3)) (by decide) c5) ?_
    refine ai (p_aload_n (pc := 12) (k := 0) (by decide +kernel : decode k_P_worth.2.1 12 = .ok (.aload_n 0, 1)) rfl rfl) ?_
    refine ai (p_getr (pc := 13) (PR_1413_0 hL) (by decide +kernel : decode k_P_worth.2.1 13 = .ok (.getfield 60, 3)) lg_11_60 (PC_0 hL).1) ?_
    refine ai (p_getr (pc := 16) (PR_1039_28 hL) (by decide +kernel : decode k_P_worth.2.1 16 = .ok (.getfield 300, 3)) lg_11_300 (PC_28 hL).1) ?_
    refine ai (r_iload_n (pc := 19) (k := 3) (by decide +kernel : decode k_P_worth.2.1 19 = .ok (.iload_n 3, 1)) rfl rfl) ?_
    obtain ⟨g6, h⟩ := gd_some h
    refine ai (p_iald (pc := 20) (by decide +kernel : decode k_P_worth.2.1 20 = .ok (.iaload, 1)) (PC_38 hL).1 (PC_38 hL).2 g6) ?_
    refine ai (r_goto (pc := 21) (tgt := 25) (by decide +kernel : decode k_P_worth.2.1 21 = .ok (.goto (4), 3)) (by decide)) ?_
    cases h
    exact ⟨r_iret rfl (by decide +kernel : decode k_P_worth.2.1 25 = .ok (.ireturn, 1)), hL⟩
set_option maxRecDepth 100000 in
set_option maxHeartbeats 4000000 in
theorem P_isWeekOf_run {x1 : Int32} {x2 : Int32} {x3 : Int32} {m m' : Mem} {r : Int32} (hL : PL m) (h : P_isWeekOf x1 x2 x3 m = some (r, m')) : Run k_P_isWeekOf 0 [(0, .ref 0), (1, .int x1), (2, .int x2), (3, .int x3)] [] m (some (.int r)) m' ∧ PL m' := by
  unfold P_isWeekOf at h
  refine ai (p_aload_n (pc := 0) (k := 0) (by decide +kernel : decode k_P_isWeekOf.2.1 0 = .ok (.aload_n 0, 1)) rfl rfl) ?_
  refine ai (p_getr (pc := 1) (PR_1408_0 hL) (by decide +kernel : decode k_P_isWeekOf.2.1 1 = .ok (.getfield 19, 3)) lg_11_19 (PC_0 hL).1) ?_
  refine ai (r_iload_n (pc := 4) (k := 1) (by decide +kernel : decode k_P_isWeekOf.2.1 4 = .ok (.iload_n 1, 1)) rfl rfl) ?_
  obtain ⟨r1, m2, hr1, h⟩ := bn_some h
  have q3 := P_Land_hasPerson_run hL hr1
  have c4 := (PC_5 hL).1
  have hL := q3.2
  refine ai (q_callV (pc := 5) (As := [.int x1]) (st := []) (st2 := [.int r1]) (b := 5) rfl rfl (by decide +kernel : decode k_P_isWeekOf.2.1 5 = .ok (.invokevirtual 152, 3)) lc_11_152 mo_P_Land_hasPerson ⟨Nat.le_of_ble_eq_true rfl, Nat.le_of_ble_eq_true rfl⟩ (Nat.le_of_ble_eq_true rfl) (Nat.le_of_ble_eq_true rfl) c4 q3.1) ?_
  rcases ite_some h with ⟨c5, h⟩ | ⟨c5, h⟩
  · refine ai (r_if_eq_t (pc := 8) (tgt := 33) (by decide +kernel : decode k_P_isWeekOf.2.1 8 = .ok (.ifCond .eq (25), 3)) (by decide) c5) ?_
    refine ai (r_iconst (pc := 33) (by decide +kernel : decode k_P_isWeekOf.2.1 33 = .ok (.iconst 0, 1)) ic_0) ?_
    cases h
    exact ⟨r_zret (by decide) rfl (by decide +kernel : decode k_P_isWeekOf.2.1 34 = .ok (.ireturn, 1)), hL⟩
  · refine ai (r_if_eq_f (pc := 8) 33 (by decide +kernel : decode k_P_isWeekOf.2.1 8 = .ok (.ifCond .eq (25), 3)) (by decide) c5) ?_
    refine ai (r_iload_n (pc := 11) (k := 2) (by decide +kernel : decode k_P_isWeekOf.2.1 11 = .ok (.iload_n 2, 1)) rfl rfl) ?_
    obtain ⟨r6, hr6, h⟩ := bp_some h
    refine ai (q_callS (pc := 12) (As := [.int x2]) (st := []) (st2 := [.int r6]) rfl rfl (by decide +kernel : decode k_P_isWeekOf.2.1 12 = .ok (.invokestatic 184, 3)) lc_11_184 mo_P_isWeek ⟨Nat.le_of_ble_eq_true rfl, Nat.le_of_ble_eq_true rfl⟩ (Nat.le_of_ble_eq_true rfl) (Nat.le_of_ble_eq_true rfl) (P_isWeek_run hr6)) ?_
    rcases ite_some h with ⟨c7, h⟩ | ⟨c7, h⟩
    · refine ai (r_if_eq_t (pc := 15) (tgt := 33) (by decide +kernel : decode k_P_isWeekOf.2.1 15 = .ok (.ifCond .eq (18), 3)) (by decide) c7) ?_
      refine ai (r_iconst (pc := 33) (by decide +kernel : decode k_P_isWeekOf.2.1 33 = .ok (.iconst 0, 1)) ic_0) ?_
      cases h
      exact ⟨r_zret (by decide) rfl (by decide +kernel : decode k_P_isWeekOf.2.1 34 = .ok (.ireturn, 1)), hL⟩
    · refine ai (r_if_eq_f (pc := 15) 33 (by decide +kernel : decode k_P_isWeekOf.2.1 15 = .ok (.ifCond .eq (18), 3)) (by decide) c7) ?_
      refine ai (p_aload_n (pc := 18) (k := 0) (by decide +kernel : decode k_P_isWeekOf.2.1 18 = .ok (.aload_n 0, 1)) rfl rfl) ?_
      refine ai (p_getr (pc := 19) (PR_1409_0 hL) (by decide +kernel : decode k_P_isWeekOf.2.1 19 = .ok (.getfield 26, 3)) lg_11_26 (PC_0 hL).1) ?_
      refine ai (r_iload_n (pc := 22) (k := 3) (by decide +kernel : decode k_P_isWeekOf.2.1 22 = .ok (.iload_n 3, 1)) rfl rfl) ?_
      obtain ⟨r8, m9, hr8, h⟩ := bn_some h
      have q10 := P_Ledger_canKnow_run hL hr8
      have c11 := (PC_13 hL).1
      have hL := q10.2
      refine ai (q_callV (pc := 23) (As := [.int x3]) (st := []) (st2 := [.int r8]) (b := 13) rfl rfl (by decide +kernel : decode k_P_isWeekOf.2.1 23 = .ok (.invokevirtual 189, 3)) lc_11_189 mo_P_Ledger_canKnow ⟨Nat.le_of_ble_eq_true rfl, Nat.le_of_ble_eq_true rfl⟩ (Nat.le_of_ble_eq_true rfl) (Nat.le_of_ble_eq_true rfl) c11 q10.1) ?_
      rcases ite_some h with ⟨c12, h⟩ | ⟨c12, h⟩
      · refine ai (r_if_eq_t (pc := 26) (tgt := 33) (by decide +kernel : decode k_P_isWeekOf.2.1 26 = .ok (.ifCond .eq (7), 3)) (by decide) c12) ?_
        refine ai (r_iconst (pc := 33) (by decide +kernel : decode k_P_isWeekOf.2.1 33 = .ok (.iconst 0, 1)) ic_0) ?_
        cases h
        exact ⟨r_zret (by decide) rfl (by decide +kernel : decode k_P_isWeekOf.2.1 34 = .ok (.ireturn, 1)), hL⟩
      · refine ai (r_if_eq_f (pc := 26) 33 (by decide +kernel : decode k_P_isWeekOf.2.1 26 = .ok (.ifCond .eq (7), 3)) (by decide) c12) ?_
        refine ai (r_iconst (pc := 29) (by decide +kernel : decode k_P_isWeekOf.2.1 29 = .ok (.iconst 1, 1)) ic_1) ?_
        refine ai (r_goto (pc := 30) (tgt := 34) (by decide +kernel : decode k_P_isWeekOf.2.1 30 = .ok (.goto (4), 3)) (by decide)) ?_
        cases h
        exact ⟨r_zret (by decide) rfl (by decide +kernel : decode k_P_isWeekOf.2.1 34 = .ok (.ireturn, 1)), hL⟩
set_option maxRecDepth 100000 in
set_option maxHeartbeats 4000000 in
theorem P_Reckoning_addUp_38_run {k2 : Int32 → Mem → Option (Unit × Mem)} {x1 : Int32} {m m' : Mem} {r : Unit} (hk2 : ∀ (x1 : Int32) (m : Mem) (r : Unit) (m' : Mem), PL m → k2 x1 m = some (r, m') → Run k_P_Reckoning_addUp 2 [(0, .ref 28), (1, .int x1)] [] m none m' ∧ PL m') (hL : PL m) (h : P_Reckoning_addUp_38 k2 x1 m = some (r, m')) : Run k_P_Reckoning_addUp 38 [(0, .ref 28), (1, .int x1)] [] m none m' ∧ PL m' := by
  unfold P_Reckoning_addUp_38 at h
  obtain ⟨v1, hv1, h⟩ := vb_some h
  refine ai (e_iinc (pc := 38) (k := 1) hv1 ic_1 (by decide +kernel : decode k_P_Reckoning_addUp.2.1 38 = .ok (.iinc 1 (1), 3)) rfl (by decide) rfl (ls2 := [(1, .int v1), (0, .ref 28)]) (i := 1)) ?_
  refine ai (r_goto (pc := 41) (tgt := 2) (by decide +kernel : decode k_P_Reckoning_addUp.2.1 41 = .ok (.goto (-39), 3)) (by decide)) ?_
  exact (ai (r_sub [1, 0] rfl) (hk2 v1 m _ _ hL h))
set_option maxRecDepth 100000 in
set_option maxHeartbeats 4000000 in
theorem P_Reckoning_addUp_2_run {n : Nat} {x1 : Int32} {m m' : Mem} {r : Unit} (hL : PL m) (h : P_Reckoning_addUp_2 n x1 m = some (r, m')) : Run k_P_Reckoning_addUp 2 [(0, .ref 28), (1, .int x1)] [] m none m' ∧ PL m' := by
  induction n generalizing x1 m r m' with
  | zero => exact absurd h (by simp [P_Reckoning_addUp_2])
  | succ n ih =>
    rw [P_Reckoning_addUp_2.eq_2] at h
    refine ai (r_iload_n (pc := 2) (k := 1) (by decide +kernel : decode k_P_Reckoning_addUp.2.1 2 = .ok (.iload_n 1, 1)) rfl rfl) ?_
    refine ai (r_bipush (pc := 3) (by decide +kernel : decode k_P_Reckoning_addUp.2.1 3 = .ok (.bipush (48), 2)) (by decide : _ = (48 : Int32))) ?_
    rcases ite_some h with ⟨c1, h⟩ | ⟨c1, h⟩
    · refine ai (r_icmp_ge_t (pc := 5) (tgt := 44) (by decide +kernel : decode k_P_Reckoning_addUp.2.1 5 = .ok (.if_icmp .ge (39), 3)) (by decide) c1) ?_
      cases h
      exact ⟨r_vret rfl (by decide +kernel : decode k_P_Reckoning_addUp.2.1 44 = .ok (.return_, 1)), hL⟩
    · refine ai (r_icmp_ge_f (pc := 5) 44 (by decide +kernel : decode k_P_Reckoning_addUp.2.1 5 = .ok (.if_icmp .ge (39), 3)) (by decide) c1) ?_
      refine ai (p_aload_n (pc := 8) (k := 0) (by decide +kernel : decode k_P_Reckoning_addUp.2.1 8 = .ok (.aload_n 0, 1)) rfl rfl) ?_
      refine ai (p_getr (pc := 9) (PR_1034_28 hL) (by decide +kernel : decode k_P_Reckoning_addUp.2.1 9 = .ok (.getfield 29, 3)) lg_8_29 (PC_28 hL).1) ?_
      refine ai (r_iload_n (pc := 12) (k := 1) (by decide +kernel : decode k_P_Reckoning_addUp.2.1 12 = .ok (.iload_n 1, 1)) rfl rfl) ?_
      obtain ⟨g2, h⟩ := gd_some h
      refine ai (p_aald (pc := 13) (j := 1) (by decide) (by decide +kernel : decode k_P_Reckoning_addUp.2.1 13 = .ok (.aaload, 1)) (PC_33 hL).1 (PC_33 hL).2 g2) ?_
      rcases ite_some h with ⟨c3, h⟩ | ⟨c3, h⟩
      · refine ai (d_ifnull_t (pc := 14) (tgt := 38) c3 (by decide +kernel : decode k_P_Reckoning_addUp.2.1 14 = .ok (.ifnull (24), 3)) (by decide)) ?_
        exact (P_Reckoning_addUp_38_run (fun _ _ _ _ q1 q3 => ih q1 q3) hL h)
      · refine ai (d_ifnull_f (pc := 14) c3 (by decide +kernel : decode k_P_Reckoning_addUp.2.1 14 = .ok (.ifnull (24), 3))) ?_
        refine ai (p_aload_n (pc := 17) (k := 0) (by decide +kernel : decode k_P_Reckoning_addUp.2.1 17 = .ok (.aload_n 0, 1)) rfl rfl) ?_
        refine ai (p_getr (pc := 18) (PR_1034_28 hL) (by decide +kernel : decode k_P_Reckoning_addUp.2.1 18 = .ok (.getfield 29, 3)) lg_8_29 (PC_28 hL).1) ?_
        refine ai (r_iload_n (pc := 21) (k := 1) (by decide +kernel : decode k_P_Reckoning_addUp.2.1 21 = .ok (.iload_n 1, 1)) rfl rfl) ?_
        obtain ⟨g4, h⟩ := gd_some h
        obtain ⟨a5, o6, h⟩ := gs_some h
        refine ai (p_aaldr (pc := 22) (j := 1) (by decide) o6 (by decide +kernel : decode k_P_Reckoning_addUp.2.1 22 = .ok (.aaload, 1)) (PC_33 hL).1 (PC_33 hL).2 g4) ?_
        refine ai (r_dup (pc := 23) (by decide +kernel : decode k_P_Reckoning_addUp.2.1 23 = .ok (.dup, 1)) (rfl)) ?_
        obtain ⟨t7, h⟩ := gt_some h
        refine ai (r_getL (pc := 24) (by decide +kernel : decode k_P_Reckoning_addUp.2.1 24 = .ok (.getfield 103, 3)) lg_8_103 t7) ?_
        refine ai (p_aload_n (pc := 27) (k := 0) (by decide +kernel : decode k_P_Reckoning_addUp.2.1 27 = .ok (.aload_n 0, 1)) rfl rfl) ?_
        refine ai (p_getr (pc := 28) (PR_1039_28 hL) (by decide +kernel : decode k_P_Reckoning_addUp.2.1 28 = .ok (.getfield 45, 3)) lg_8_45 (PC_28 hL).1) ?_
        refine ai (r_iload_n (pc := 31) (k := 1) (by decide +kernel : decode k_P_Reckoning_addUp.2.1 31 = .ok (.iload_n 1, 1)) rfl rfl) ?_
        obtain ⟨g8, h⟩ := gd_some h
        refine ai (p_iald (pc := 32) (by decide +kernel : decode k_P_Reckoning_addUp.2.1 32 = .ok (.iaload, 1)) (PC_38 hL).1 (PC_38 hL).2 g8) ?_
        refine ai (r_i2l (pc := 33) (by decide +kernel : decode k_P_Reckoning_addUp.2.1 33 = .ok (.i2l, 1))) ?_
        refine ai (r_ladd (pc := 34) (by decide +kernel : decode k_P_Reckoning_addUp.2.1 34 = .ok (.ladd, 1))) ?_
        obtain ⟨m9, hm9, h⟩ := vb_some h
        have hL : PL m9 := by rw [hm9]; exact hL
        have t10 : mT m9 a5 = 11 := by rw [hm9]; exact t7
        refine ai (p_putL (pc := 35) hm9 (by decide +kernel : decode k_P_Reckoning_addUp.2.1 35 = .ok (.putfield 103, 3)) lp_8_103 t7) ?_
        exact (P_Reckoning_addUp_38_run (fun _ _ _ _ q1 q3 => ih q1 q3) hL h)
set_option maxRecDepth 100000 in
set_option maxHeartbeats 4000000 in
theorem P_Reckoning_addUp_run {m m' : Mem} {r : Unit} (hL : PL m) (h : P_Reckoning_addUp m = some (r, m')) : Run k_P_Reckoning_addUp 0 [(0, .ref 28)] [] m none m' ∧ PL m' := by
  unfold P_Reckoning_addUp at h
  refine ai (r_iconst (pc := 0) (by decide +kernel : decode k_P_Reckoning_addUp.2.1 0 = .ok (.iconst 0, 1)) ic_0) ?_
  refine ai (e_istore_n (pc := 1) rfl (by decide +kernel : decode k_P_Reckoning_addUp.2.1 1 = .ok (.istore_n 1, 1)) rfl (by decide) rfl (ls2 := [(1, .int 0), (0, .ref 28)]) (i := 1)) ?_
  exact (ai (r_sub [1, 0] rfl) (P_Reckoning_addUp_2_run hL h))
set_option maxRecDepth 100000 in
set_option maxHeartbeats 4000000 in
theorem P_Reckoning_rounded_95_run {k43 : Int64 → Int32 → Mem → Option (Int32 × Mem)} {x1 : Int64} {x3 : Int32} {x4 : Option Nat} {s0 : Int64} {m m' : Mem} {r : Int32} (hk43 : ∀ (x1 : Int64) (x3 : Int32) (m : Mem) (r : Int32) (m' : Mem), PL m → k43 x1 x3 m = some (r, m') → Run k_P_Reckoning_rounded 43 [(0, .ref 28), (1, .long x1), (3, .int x3)] [] m (some (.int r)) m' ∧ PL m') (hL : PL m) (h : P_Reckoning_rounded_95 k43 x1 x3 x4 s0 m = some (r, m')) : Run k_P_Reckoning_rounded 95 [(0, .ref 28), (1, .long x1), (3, .int x3), (4, va_rf x4)] [.long s0] m (some (.int r)) m' ∧ PL m' := by
  unfold P_Reckoning_rounded_95 at h
  refine ai (e_lstore (pc := 95) rfl (by decide +kernel : decode k_P_Reckoning_rounded.2.1 95 = .ok (.lstore 5, 2)) (by decide) (by simp [f2, vrc, vrs, cti, ctr, ctl, ctn, cta]) (ls2 := [(5, .long s0), (0, .ref 28), (1, .long x1), (3, .int x3), (4, va_rf x4)]) (i := 5)) ?_
  refine ai (r_lload_n (pc := 97) (k := 2) (by decide +kernel : decode k_P_Reckoning_rounded.2.1 97 = .ok (.lload_n 1, 1)) rfl rfl) ?_
  obtain ⟨a1, rfl, hha1⟩ := gs_some h
  have h := hha1
  refine ai (p_aload (pc := 98) (k := 4) (by decide +kernel : decode k_P_Reckoning_rounded.2.1 98 = .ok (.aload 4, 2)) rfl) ?_
  obtain ⟨t2, h⟩ := gt_some h
  refine ai (r_getL (pc := 100) (by decide +kernel : decode k_P_Reckoning_rounded.2.1 100 = .ok (.getfield 103, 3)) lg_8_103 t2) ?_
  refine ai (r_lload (pc := 103) (k := 0) (by decide +kernel : decode k_P_Reckoning_rounded.2.1 103 = .ok (.lload 5, 2)) rfl) ?_
  refine ai (r_ldc2_w (pc := 105) (by decide +kernel : decode k_P_Reckoning_rounded.2.1 105 = .ok (.ldc2_w 151, 3)) lk_8_151) ?_
  refine ai (r_lmul (pc := 108) (by decide +kernel : decode k_P_Reckoning_rounded.2.1 108 = .ok (.lmul, 1))) ?_
  refine ai (r_ldc2_w (pc := 109) (by decide +kernel : decode k_P_Reckoning_rounded.2.1 109 = .ok (.ldc2_w 153, 3)) lk_8_153) ?_
  refine ai (r_ldiv (pc := 112) (by decide +kernel : decode k_P_Reckoning_rounded.2.1 112 = .ok (.ldiv, 1)) (by decide)) ?_
  refine ai (r_ladd (pc := 113) (by decide +kernel : decode k_P_Reckoning_rounded.2.1 113 = .ok (.ladd, 1))) ?_
  refine ai (r_lload (pc := 114) (k := 0) (by decide +kernel : decode k_P_Reckoning_rounded.2.1 114 = .ok (.lload 5, 2)) rfl) ?_
  refine ai (r_ldc2_w (pc := 116) (by decide +kernel : decode k_P_Reckoning_rounded.2.1 116 = .ok (.ldc2_w 151, 3)) lk_8_151) ?_
  refine ai (r_lmul (pc := 119) (by decide +kernel : decode k_P_Reckoning_rounded.2.1 119 = .ok (.lmul, 1))) ?_
  obtain ⟨g3, h⟩ := gnl_some h
  refine ai (r_ldiv (pc := 120) (by decide +kernel : decode k_P_Reckoning_rounded.2.1 120 = .ok (.ldiv, 1)) g3) ?_
  refine ai (r_lload (pc := 121) (k := 0) (by decide +kernel : decode k_P_Reckoning_rounded.2.1 121 = .ok (.lload 5, 2)) rfl) ?_
  refine ai (r_lmul (pc := 123) (by decide +kernel : decode k_P_Reckoning_rounded.2.1 123 = .ok (.lmul, 1))) ?_
  refine ai (r_ladd (pc := 124) (by decide +kernel : decode k_P_Reckoning_rounded.2.1 124 = .ok (.ladd, 1))) ?_
  obtain ⟨v4, hv4, h⟩ := vb_some h
  refine ai (e_lstore_n (pc := 125) hv4 (by decide +kernel : decode k_P_Reckoning_rounded.2.1 125 = .ok (.lstore_n 1, 1)) rfl (by decide) rfl (ls2 := [(1, .long v4), (5, .long s0), (0, .ref 28), (3, .int x3), (4, .ref a1)]) (i := 1)) ?_
  obtain ⟨v5, hv5, h⟩ := vb_some h
  refine ai (e_iinc (pc := 126) (k := 3) hv5 ic_1 (by decide +kernel : decode k_P_Reckoning_rounded.2.1 126 = .ok (.iinc 3 (1), 3)) rfl (by decide) rfl (ls2 := [(3, .int v5), (1, .long v4), (5, .long s0), (0, .ref 28), (4, .ref a1)]) (i := 3)) ?_
  refine ai (r_goto (pc := 129) (tgt := 43) (by decide +kernel : decode k_P_Reckoning_rounded.2.1 129 = .ok (.goto (-86), 3)) (by decide)) ?_
  exact (ai (r_sub [3, 1, 0] rfl) (hk43 v4 v5 m _ _ hL h))
set_option maxRecDepth 100000 in
set_option maxHeartbeats 4000000 in
theorem P_Reckoning_rounded_94_run {k43 : Int64 → Int32 → Mem → Option (Int32 × Mem)} {x1 : Int64} {x3 : Int32} {x4 : Option Nat} {m m' : Mem} {r : Int32} (hk43 : ∀ (x1 : Int64) (x3 : Int32) (m : Mem) (r : Int32) (m' : Mem), PL m → k43 x1 x3 m = some (r, m') → Run k_P_Reckoning_rounded 43 [(0, .ref 28), (1, .long x1), (3, .int x3)] [] m (some (.int r)) m' ∧ PL m') (hL : PL m) (h : P_Reckoning_rounded_94 k43 x1 x3 x4 m = some (r, m')) : Run k_P_Reckoning_rounded 94 [(0, .ref 28), (1, .long x1), (3, .int x3), (4, va_rf x4)] [] m (some (.int r)) m' ∧ PL m' := by
  unfold P_Reckoning_rounded_94 at h
  refine ai (r_lconst (pc := 94) (x := 1) (by decide +kernel : decode k_P_Reckoning_rounded.2.1 94 = .ok (.lconst 1, 1)) (by decide)) ?_
  exact (P_Reckoning_rounded_95_run hk43 hL h)
set_option maxRecDepth 100000 in
set_option maxHeartbeats 4000000 in
theorem P_Reckoning_rounded_132_run {x1 : Int64} {m m' : Mem} {r : Int32} (hL : PL m) (h : P_Reckoning_rounded_132 x1 m = some (r, m')) : Run k_P_Reckoning_rounded 132 [(1, .long x1)] [] m (some (.int r)) m' ∧ PL m' := by
  unfold P_Reckoning_rounded_132 at h
  refine ai (r_lload_n (pc := 132) (k := 0) (by decide +kernel : decode k_P_Reckoning_rounded.2.1 132 = .ok (.lload_n 1, 1)) rfl rfl) ?_
  refine ai (r_l2i (pc := 133) (by decide +kernel : decode k_P_Reckoning_rounded.2.1 133 = .ok (.l2i, 1))) ?_
  cases h
  exact ⟨r_iret rfl (by decide +kernel : decode k_P_Reckoning_rounded.2.1 134 = .ok (.ireturn, 1)), hL⟩
set_option maxRecDepth 100000 in
set_option maxHeartbeats 4000000 in
theorem P_Reckoning_rounded_43_run {n : Nat} {x1 : Int64} {x3 : Int32} {m m' : Mem} {r : Int32} (hL : PL m) (h : P_Reckoning_rounded_43 n x1 x3 m = some (r, m')) : Run k_P_Reckoning_rounded 43 [(0, .ref 28), (1, .long x1), (3, .int x3)] [] m (some (.int r)) m' ∧ PL m' := by
  induction n generalizing x1 x3 m r m' with
  | zero => exact absurd h (by simp [P_Reckoning_rounded_43])
  | succ n ih =>
    rw [P_Reckoning_rounded_43.eq_2] at h
    refine ai (r_iload_n (pc := 43) (k := 2) (by decide +kernel : decode k_P_Reckoning_rounded.2.1 43 = .ok (.iload_n 3, 1)) rfl rfl) ?_
    refine ai (p_aload_n (pc := 44) (k := 0) (by decide +kernel : decode k_P_Reckoning_rounded.2.1 44 = .ok (.aload_n 0, 1)) rfl rfl) ?_
    refine ai (p_getr (pc := 45) (PR_1024_28 hL) (by decide +kernel : decode k_P_Reckoning_rounded.2.1 45 = .ok (.getfield 54, 3)) lg_8_54 (PC_28 hL).1) ?_
    refine ai (r_getI (pc := 48) (by decide +kernel : decode k_P_Reckoning_rounded.2.1 48 = .ok (.getfield 97, 3)) lg_8_97 (by decide) (PC_13 hL).1) ?_
    rcases ite_some h with ⟨c1, h⟩ | ⟨c1, h⟩
    · refine ai (r_icmp_ge_t (pc := 51) (tgt := 132) (by decide +kernel : decode k_P_Reckoning_rounded.2.1 51 = .ok (.if_icmp .ge (81), 3)) (by decide) c1) ?_
      exact (ai (r_sub [1] rfl) (P_Reckoning_rounded_132_run hL h))
    · refine ai (r_icmp_ge_f (pc := 51) 132 (by decide +kernel : decode k_P_Reckoning_rounded.2.1 51 = .ok (.if_icmp .ge (81), 3)) (by decide) c1) ?_
      refine ai (p_aload_n (pc := 54) (k := 0) (by decide +kernel : decode k_P_Reckoning_rounded.2.1 54 = .ok (.aload_n 0, 1)) rfl rfl) ?_
      refine ai (p_getr (pc := 55) (PR_1024_28 hL) (by decide +kernel : decode k_P_Reckoning_rounded.2.1 55 = .ok (.getfield 54, 3)) lg_8_54 (PC_28 hL).1) ?_
      refine ai (p_getr (pc := 58) (PR_513_13 hL) (by decide +kernel : decode k_P_Reckoning_rounded.2.1 58 = .ok (.getfield 100, 3)) lg_8_100 (PC_13 hL).1) ?_
      refine ai (r_iload_n (pc := 61) (k := 2) (by decide +kernel : decode k_P_Reckoning_rounded.2.1 61 = .ok (.iload_n 3, 1)) rfl rfl) ?_
      obtain ⟨g2, h⟩ := gd_some h
      obtain ⟨a3, o4, h⟩ := gs_some h
      refine ai (p_aaldr (pc := 62) (j := 1) (by decide) o4 (by decide +kernel : decode k_P_Reckoning_rounded.2.1 62 = .ok (.aaload, 1)) (PC_15 hL).1 (PC_15 hL).2 g2) ?_
      refine ai (p_astore (pc := 63) (by decide +kernel : decode k_P_Reckoning_rounded.2.1 63 = .ok (.astore 4, 2)) (by decide) rfl (ls2 := [(4, .ref a3), (0, .ref 28), (1, .long x1), (3, .int x3)]) (i := 4)) ?_
      refine ai (p_aload (pc := 65) (k := 0) (by decide +kernel : decode k_P_Reckoning_rounded.2.1 65 = .ok (.aload 4, 2)) rfl) ?_
      obtain ⟨t5, h⟩ := gt_some h
      refine ai (r_getI (pc := 67) (by decide +kernel : decode k_P_Reckoning_rounded.2.1 67 = .ok (.getfield 137, 3)) lg_8_137 (by decide) t5) ?_
      rcases ite_some h with ⟨c6, h⟩ | ⟨c6, h⟩
      · refine ai (r_if_eq_t (pc := 70) (tgt := 94) (by decide +kernel : decode k_P_Reckoning_rounded.2.1 70 = .ok (.ifCond .eq (24), 3)) (by decide) c6) ?_
        exact (ai (r_sub [1, 2, 3, 0] rfl) (P_Reckoning_rounded_94_run (fun _ _ _ _ _ q1 q3 => ih q1 q3) hL h))
      · refine ai (r_if_eq_f (pc := 70) 94 (by decide +kernel : decode k_P_Reckoning_rounded.2.1 70 = .ok (.ifCond .eq (24), 3)) (by decide) c6) ?_
        refine ai (p_aload (pc := 73) (k := 0) (by decide +kernel : decode k_P_Reckoning_rounded.2.1 73 = .ok (.aload 4, 2)) rfl) ?_
        refine ai (r_getI (pc := 75) (by decide +kernel : decode k_P_Reckoning_rounded.2.1 75 = .ok (.getfield 141, 3)) lg_8_141 (by decide) t5) ?_
        rcases ite_some h with ⟨c7, h⟩ | ⟨c7, h⟩
        · refine ai (r_if_ne_f (pc := 78) 94 (by decide +kernel : decode k_P_Reckoning_rounded.2.1 78 = .ok (.ifCond .ne (16), 3)) (by decide) c7) ?_
          refine ai (r_iconst (pc := 81) (by decide +kernel : decode k_P_Reckoning_rounded.2.1 81 = .ok (.iconst 1, 1)) ic_1) ?_
          refine ai (p_aload (pc := 82) (k := 0) (by decide +kernel : decode k_P_Reckoning_rounded.2.1 82 = .ok (.aload 4, 2)) rfl) ?_
          refine ai (r_getI (pc := 84) (by decide +kernel : decode k_P_Reckoning_rounded.2.1 84 = .ok (.getfield 142, 3)) lg_8_142 (by decide) t5) ?_
          refine ai (r_mmax (pc := 87) (by decide +kernel : decode k_P_Reckoning_rounded.2.1 87 = .ok (.invokestatic 145, 3)) lm_8_145 lm_mmax_st lm_math lm_mmax_cd ⟨by decide, by decide⟩ (Nat.le_of_ble_eq_true rfl)) ?_
          refine ai (r_i2l (pc := 90) (by decide +kernel : decode k_P_Reckoning_rounded.2.1 90 = .ok (.i2l, 1))) ?_
          refine ai (r_goto (pc := 91) (tgt := 95) (by decide +kernel : decode k_P_Reckoning_rounded.2.1 91 = .ok (.goto (4), 3)) (by decide)) ?_
          exact (ai (r_sub [1, 2, 3, 0] rfl) (P_Reckoning_rounded_95_run (fun _ _ _ _ _ q1 q3 => ih q1 q3) hL h))
        · refine ai (r_if_ne_t (pc := 78) (tgt := 94) (by decide +kernel : decode k_P_Reckoning_rounded.2.1 78 = .ok (.ifCond .ne (16), 3)) (by decide) c7) ?_
          exact (ai (r_sub [1, 2, 3, 0] rfl) (P_Reckoning_rounded_94_run (fun _ _ _ _ _ q1 q3 => ih q1 q3) hL h))
set_option maxRecDepth 100000 in
set_option maxHeartbeats 4000000 in
theorem P_Reckoning_rounded_run {m m' : Mem} {r : Int32} (hL : PL m) (h : P_Reckoning_rounded m = some (r, m')) : Run k_P_Reckoning_rounded 0 [(0, .ref 28)] [] m (some (.int r)) m' ∧ PL m' := by
  unfold P_Reckoning_rounded at h
  refine ai (p_aload_n (pc := 0) (k := 0) (by decide +kernel : decode k_P_Reckoning_rounded.2.1 0 = .ok (.aload_n 0, 1)) rfl rfl) ?_
  refine ai (p_getr (pc := 1) (PR_1025_28 hL) (by decide +kernel : decode k_P_Reckoning_rounded.2.1 1 = .ok (.getfield 58, 3)) lg_8_58 (PC_28 hL).1) ?_
  refine ai (p_aload_n (pc := 4) (k := 0) (by decide +kernel : decode k_P_Reckoning_rounded.2.1 4 = .ok (.aload_n 0, 1)) rfl rfl) ?_
  refine ai (p_getr (pc := 5) (PR_1025_28 hL) (by decide +kernel : decode k_P_Reckoning_rounded.2.1 5 = .ok (.getfield 58, 3)) lg_8_58 (PC_28 hL).1) ?_
  refine ai (p_getr (pc := 8) (PR_1152_25 hL) (by decide +kernel : decode k_P_Reckoning_rounded.2.1 8 = .ok (.getfield 122, 3)) lg_8_122 (PC_25 hL).1) ?_
  refine ai (p_getr (pc := 11) (PR_389_5 hL) (by decide +kernel : decode k_P_Reckoning_rounded.2.1 11 = .ok (.getfield 128, 3)) lg_8_128 (PC_5 hL).1) ?_
  refine ai (p_aload_n (pc := 14) (k := 0) (by decide +kernel : decode k_P_Reckoning_rounded.2.1 14 = .ok (.aload_n 0, 1)) rfl rfl) ?_
  refine ai (r_getI (pc := 15) (by decide +kernel : decode k_P_Reckoning_rounded.2.1 15 = .ok (.getfield 62, 3)) lg_8_62 (by decide) (PC_28 hL).1) ?_
  obtain ⟨g1, h⟩ := gd_some h
  refine ai (p_iald (pc := 18) (by decide +kernel : decode k_P_Reckoning_rounded.2.1 18 = .ok (.iaload, 1)) (PC_8 hL).1 (PC_8 hL).2 g1) ?_
  refine ai (p_aload_n (pc := 19) (k := 0) (by decide +kernel : decode k_P_Reckoning_rounded.2.1 19 = .ok (.aload_n 0, 1)) rfl rfl) ?_
  refine ai (r_getI (pc := 20) (by decide +kernel : decode k_P_Reckoning_rounded.2.1 20 = .ok (.getfield 66, 3)) lg_8_66 (by decide) (PC_28 hL).1) ?_
  refine ai (r_bipush (pc := 23) (by decide +kernel : decode k_P_Reckoning_rounded.2.1 23 = .ok (.bipush (7), 2)) (by decide : _ = (7 : Int32))) ?_
  refine ai (r_imul (pc := 25) (by decide +kernel : decode k_P_Reckoning_rounded.2.1 25 = .ok (.imul, 1))) ?_
  refine ai (r_bipush (pc := 26) (by decide +kernel : decode k_P_Reckoning_rounded.2.1 26 = .ok (.bipush (7), 2)) (by decide : _ = (7 : Int32))) ?_
  refine ai (r_iadd (pc := 28) (by decide +kernel : decode k_P_Reckoning_rounded.2.1 28 = .ok (.iadd, 1))) ?_
  refine ai (r_iconst (pc := 29) (by decide +kernel : decode k_P_Reckoning_rounded.2.1 29 = .ok (.iconst 1, 1)) ic_1) ?_
  refine ai (r_isub (pc := 30) (by decide +kernel : decode k_P_Reckoning_rounded.2.1 30 = .ok (.isub, 1))) ?_
  refine ai (p_aload_n (pc := 31) (k := 0) (by decide +kernel : decode k_P_Reckoning_rounded.2.1 31 = .ok (.aload_n 0, 1)) rfl rfl) ?_
  refine ai (r_getI (pc := 32) (by decide +kernel : decode k_P_Reckoning_rounded.2.1 32 = .ok (.getfield 69, 3)) lg_8_69 (by decide) (PC_28 hL).1) ?_
  refine ai (r_iconst (pc := 35) (by decide +kernel : decode k_P_Reckoning_rounded.2.1 35 = .ok (.iconst 0, 1)) ic_0) ?_
  obtain ⟨r2, m3, hr2, h⟩ := bn_some h
  have q4 := P_Scene_open_run hL hr2
  have c5 := (PC_25 hL).1
  have hL := q4.2
  refine ai (q_callV (pc := 36) (As := [.int (aI m 8 (ix (mI m 1026 28))), .int ((((mI m 1027 28) * 7) + 7) - 1), .int (mI m 1028 28), .int 0]) (st := []) (st2 := []) (b := 25) rfl rfl (by decide +kernel : decode k_P_Reckoning_rounded.2.1 36 = .ok (.invokevirtual 133, 3)) lc_8_133 mo_P_Scene_open ⟨Nat.le_of_ble_eq_true rfl, Nat.le_of_ble_eq_true rfl⟩ (Nat.le_of_ble_eq_true rfl) (Nat.le_of_ble_eq_true rfl) c5 q4.1) ?_
  refine ai (r_lconst (pc := 39) (x := 0) (by decide +kernel : decode k_P_Reckoning_rounded.2.1 39 = .ok (.lconst 0, 1)) (by decide)) ?_
  refine ai (e_lstore_n (pc := 40) rfl (by decide +kernel : decode k_P_Reckoning_rounded.2.1 40 = .ok (.lstore_n 1, 1)) rfl (by decide) rfl (ls2 := [(1, .long 0), (0, .ref 28)]) (i := 1)) ?_
  refine ai (r_iconst (pc := 41) (by decide +kernel : decode k_P_Reckoning_rounded.2.1 41 = .ok (.iconst 0, 1)) ic_0) ?_
  refine ai (e_istore_n (pc := 42) rfl (by decide +kernel : decode k_P_Reckoning_rounded.2.1 42 = .ok (.istore_n 3, 1)) rfl (by decide) rfl (ls2 := [(3, .int 0), (1, .long 0), (0, .ref 28)]) (i := 3)) ?_
  exact (ai (r_sub [2, 1, 0] rfl) (P_Reckoning_rounded_43_run hL h))
set_option maxRecDepth 100000 in
set_option maxHeartbeats 4000000 in
theorem P_Reckoning_weekPay_77_run {k48 : Int32 → Int32 → Mem → Option (Int32 × Mem)} {x4 : Int32} {x5 : Int32} {m m' : Mem} {r : Int32} (hk48 : ∀ (x4 : Int32) (x5 : Int32) (m : Mem) (r : Int32) (m' : Mem), PL m → k48 x4 x5 m = some (r, m') → Run k_P_Reckoning_weekPay 48 [(0, .ref 28), (4, .int x4), (5, .int x5)] [] m (some (.int r)) m' ∧ PL m') (hL : PL m) (h : P_Reckoning_weekPay_77 k48 x4 x5 m = some (r, m')) : Run k_P_Reckoning_weekPay 77 [(0, .ref 28), (4, .int x4), (5, .int x5)] [] m (some (.int r)) m' ∧ PL m' := by
  unfold P_Reckoning_weekPay_77 at h
  obtain ⟨v1, hv1, h⟩ := vb_some h
  refine ai (e_iinc (pc := 77) (k := 2) hv1 ic_1 (by decide +kernel : decode k_P_Reckoning_weekPay.2.1 77 = .ok (.iinc 5 (1), 3)) rfl (by decide) rfl (ls2 := [(5, .int v1), (0, .ref 28), (4, .int x4)]) (i := 5)) ?_
  refine ai (r_goto (pc := 80) (tgt := 48) (by decide +kernel : decode k_P_Reckoning_weekPay.2.1 80 = .ok (.goto (-32), 3)) (by decide)) ?_
  exact (ai (r_sub [1, 2, 0] rfl) (hk48 x4 v1 m _ _ hL h))
set_option maxRecDepth 100000 in
set_option maxHeartbeats 4000000 in
theorem P_Reckoning_weekPay_83_run {x4 : Int32} {m m' : Mem} {r : Int32} (hL : PL m) (h : P_Reckoning_weekPay_83 x4 m = some (r, m')) : Run k_P_Reckoning_weekPay 83 [(0, .ref 28), (4, .int x4)] [] m (some (.int r)) m' ∧ PL m' := by
  unfold P_Reckoning_weekPay_83 at h
  refine ai (r_iload (pc := 83) (k := 1) (by decide +kernel : decode k_P_Reckoning_weekPay.2.1 83 = .ok (.iload 4, 2)) rfl) ?_
  rcases ite_some h with ⟨c1, h⟩ | ⟨c1, h⟩
  · refine ai (r_if_eq_t (pc := 85) (tgt := 95) (by decide +kernel : decode k_P_Reckoning_weekPay.2.1 85 = .ok (.ifCond .eq (10), 3)) (by decide) c1) ?_
    refine ai (r_iconst (pc := 95) (by decide +kernel : decode k_P_Reckoning_weekPay.2.1 95 = .ok (.iconst 0, 1)) ic_0) ?_
    cases h
    exact ⟨r_iret rfl (by decide +kernel : decode k_P_Reckoning_weekPay.2.1 96 = .ok (.ireturn, 1)), hL⟩
  · refine ai (r_if_eq_f (pc := 85) 95 (by decide +kernel : decode k_P_Reckoning_weekPay.2.1 85 = .ok (.ifCond .eq (10), 3)) (by decide) c1) ?_
    refine ai (p_aload_n (pc := 88) (k := 0) (by decide +kernel : decode k_P_Reckoning_weekPay.2.1 88 = .ok (.aload_n 0, 1)) rfl rfl) ?_
    obtain ⟨r2, m3, hr2, h⟩ := bn_some h
    have q4 := P_Reckoning_rounded_run hL hr2
    have c5 := (PC_28 hL).1
    have hL := q4.2
    refine ai (q_callV (pc := 89) (As := []) (st := []) (st2 := [.int r2]) (b := 28) rfl rfl (by decide +kernel : decode k_P_Reckoning_weekPay.2.1 89 = .ok (.invokevirtual 118, 3)) lc_8_118 mo_P_Reckoning_rounded ⟨Nat.le_of_ble_eq_true rfl, Nat.le_of_ble_eq_true rfl⟩ (Nat.le_of_ble_eq_true rfl) (Nat.le_of_ble_eq_true rfl) c5 q4.1) ?_
    refine ai (r_goto (pc := 92) (tgt := 96) (by decide +kernel : decode k_P_Reckoning_weekPay.2.1 92 = .ok (.goto (4), 3)) (by decide)) ?_
    cases h
    exact ⟨r_iret rfl (by decide +kernel : decode k_P_Reckoning_weekPay.2.1 96 = .ok (.ireturn, 1)), hL⟩
set_option maxRecDepth 100000 in
set_option maxHeartbeats 4000000 in
theorem P_Reckoning_weekPay_48_run {n : Nat} {x4 : Int32} {x5 : Int32} {m m' : Mem} {r : Int32} (hL : PL m) (h : P_Reckoning_weekPay_48 n x4 x5 m = some (r, m')) : Run k_P_Reckoning_weekPay 48 [(0, .ref 28), (4, .int x4), (5, .int x5)] [] m (some (.int r)) m' ∧ PL m' := by
  induction n generalizing x4 x5 m r m' with
  | zero => exact absurd h (by simp [P_Reckoning_weekPay_48])
  | succ n ih =>
    rw [P_Reckoning_weekPay_48.eq_2] at h
    refine ai (r_iload (pc := 48) (k := 2) (by decide +kernel : decode k_P_Reckoning_weekPay.2.1 48 = .ok (.iload 5, 2)) rfl) ?_
    refine ai (r_bipush (pc := 50) (by decide +kernel : decode k_P_Reckoning_weekPay.2.1 50 = .ok (.bipush (7), 2)) (by decide : _ = (7 : Int32))) ?_
    rcases ite_some h with ⟨c1, h⟩ | ⟨c1, h⟩
    · refine ai (r_icmp_ge_t (pc := 52) (tgt := 83) (by decide +kernel : decode k_P_Reckoning_weekPay.2.1 52 = .ok (.if_icmp .ge (31), 3)) (by decide) c1) ?_
      exact (ai (r_sub [0, 1] rfl) (P_Reckoning_weekPay_83_run hL h))
    · refine ai (r_icmp_ge_f (pc := 52) 83 (by decide +kernel : decode k_P_Reckoning_weekPay.2.1 52 = .ok (.if_icmp .ge (31), 3)) (by decide) c1) ?_
      refine ai (p_aload_n (pc := 55) (k := 0) (by decide +kernel : decode k_P_Reckoning_weekPay.2.1 55 = .ok (.aload_n 0, 1)) rfl rfl) ?_
      refine ai (r_iload (pc := 56) (k := 2) (by decide +kernel : decode k_P_Reckoning_weekPay.2.1 56 = .ok (.iload 5, 2)) rfl) ?_
      obtain ⟨r2, m3, hr2, h⟩ := bn_some h
      have q4 := P_Reckoning_tasksOn_run hL hr2
      have c5 := (PC_28 hL).1
      have hL := q4.2
      refine ai (q_callV (pc := 58) (As := [.int x5]) (st := []) (st2 := [.int r2]) (b := 28) rfl rfl (by decide +kernel : decode k_P_Reckoning_weekPay.2.1 58 = .ok (.invokevirtual 107, 3)) lc_8_107 mo_P_Reckoning_tasksOn ⟨Nat.le_of_ble_eq_true rfl, Nat.le_of_ble_eq_true rfl⟩ (Nat.le_of_ble_eq_true rfl) (Nat.le_of_ble_eq_true rfl) c5 q4.1) ?_
      rcases ite_some h with ⟨c6, h⟩ | ⟨c6, h⟩
      · refine ai (r_if_le_t (pc := 61) (tgt := 77) (by decide +kernel : decode k_P_Reckoning_weekPay.2.1 61 = .ok (.ifCond .le (16), 3)) (by decide) c6) ?_
        exact (P_Reckoning_weekPay_77_run (fun _ _ _ _ _ q1 q3 => ih q1 q3) hL h)
      · refine ai (r_if_le_f (pc := 61) 77 (by decide +kernel : decode k_P_Reckoning_weekPay.2.1 61 = .ok (.ifCond .le (16), 3)) (by decide) c6) ?_
        refine ai (r_iconst (pc := 64) (by decide +kernel : decode k_P_Reckoning_weekPay.2.1 64 = .ok (.iconst 1, 1)) ic_1) ?_
        refine ai (e_istore (pc := 65) rfl (by decide +kernel : decode k_P_Reckoning_weekPay.2.1 65 = .ok (.istore 4, 2)) (by decide) rfl (ls2 := [(4, .int 1), (0, .ref 28), (5, .int x5)]) (i := 4)) ?_
        refine ai (p_aload_n (pc := 67) (k := 1) (by decide +kernel : decode k_P_Reckoning_weekPay.2.1 67 = .ok (.aload_n 0, 1)) rfl rfl) ?_
        refine ai (r_iload (pc := 68) (k := 2) (by decide +kernel : decode k_P_Reckoning_weekPay.2.1 68 = .ok (.iload 5, 2)) rfl) ?_
        obtain ⟨r7, m8, hr7, h⟩ := bn_some h
        have q9 := P_Reckoning_reckon_run hL hr7
        have c10 := (PC_28 hL).1
        have hL := q9.2
        refine ai (q_callV (pc := 70) (As := [.int x5]) (st := []) (st2 := []) (b := 28) rfl rfl (by decide +kernel : decode k_P_Reckoning_weekPay.2.1 70 = .ok (.invokevirtual 111, 3)) lc_8_111 mo_P_Reckoning_reckon ⟨Nat.le_of_ble_eq_true rfl, Nat.le_of_ble_eq_true rfl⟩ (Nat.le_of_ble_eq_true rfl) (Nat.le_of_ble_eq_true rfl) c10 q9.1) ?_
        refine ai (p_aload_n (pc := 73) (k := 1) (by decide +kernel : decode k_P_Reckoning_weekPay.2.1 73 = .ok (.aload_n 0, 1)) rfl rfl) ?_
        obtain ⟨r11, m12, hr11, h⟩ := bn_some h
        have q13 := P_Reckoning_addUp_run hL hr11
        have c14 := (PC_28 hL).1
        have hL := q13.2
        refine ai (q_callV (pc := 74) (As := []) (st := []) (st2 := []) (b := 28) rfl rfl (by decide +kernel : decode k_P_Reckoning_weekPay.2.1 74 = .ok (.invokevirtual 115, 3)) lc_8_115 mo_P_Reckoning_addUp ⟨Nat.le_of_ble_eq_true rfl, Nat.le_of_ble_eq_true rfl⟩ (Nat.le_of_ble_eq_true rfl) (Nat.le_of_ble_eq_true rfl) c14 q13.1) ?_
        exact (ai (r_sub [1, 0, 2] rfl) (P_Reckoning_weekPay_77_run (fun _ _ _ _ _ q1 q3 => ih q1 q3) hL h))
set_option maxRecDepth 100000 in
set_option maxHeartbeats 4000000 in
theorem P_Reckoning_weekPay_42_run {m m' : Mem} {r : Int32} (hL : PL m) (h : P_Reckoning_weekPay_42 m = some (r, m')) : Run k_P_Reckoning_weekPay 42 [(0, .ref 28)] [] m (some (.int r)) m' ∧ PL m' := by
  unfold P_Reckoning_weekPay_42 at h
  refine ai (r_iconst (pc := 42) (by decide +kernel : decode k_P_Reckoning_weekPay.2.1 42 = .ok (.iconst 0, 1)) ic_0) ?_
  refine ai (e_istore (pc := 43) rfl (by decide +kernel : decode k_P_Reckoning_weekPay.2.1 43 = .ok (.istore 4, 2)) (by decide) rfl (ls2 := [(4, .int 0), (0, .ref 28)]) (i := 4)) ?_
  refine ai (r_iconst (pc := 45) (by decide +kernel : decode k_P_Reckoning_weekPay.2.1 45 = .ok (.iconst 0, 1)) ic_0) ?_
  refine ai (e_istore (pc := 46) rfl (by decide +kernel : decode k_P_Reckoning_weekPay.2.1 46 = .ok (.istore 5, 2)) (by decide) rfl (ls2 := [(5, .int 0), (4, .int 0), (0, .ref 28)]) (i := 5)) ?_
  exact (ai (r_sub [2, 1, 0] rfl) (P_Reckoning_weekPay_48_run hL h))
set_option maxRecDepth 100000 in
set_option maxHeartbeats 4000000 in
theorem P_Reckoning_weekPay_10_run {n : Nat} {x4 : Int32} {m m' : Mem} {r : Int32} (hL : PL m) (h : P_Reckoning_weekPay_10 n x4 m = some (r, m')) : Run k_P_Reckoning_weekPay 10 [(0, .ref 28), (4, .int x4)] [] m (some (.int r)) m' ∧ PL m' := by
  induction n generalizing x4 m r m' with
  | zero => exact absurd h (by simp [P_Reckoning_weekPay_10])
  | succ n ih =>
    rw [P_Reckoning_weekPay_10.eq_2] at h
    refine ai (r_iload (pc := 10) (k := 1) (by decide +kernel : decode k_P_Reckoning_weekPay.2.1 10 = .ok (.iload 4, 2)) rfl) ?_
    refine ai (p_aload_n (pc := 12) (k := 0) (by decide +kernel : decode k_P_Reckoning_weekPay.2.1 12 = .ok (.aload_n 0, 1)) rfl rfl) ?_
    refine ai (p_getr (pc := 13) (PR_1024_28 hL) (by decide +kernel : decode k_P_Reckoning_weekPay.2.1 13 = .ok (.getfield 54, 3)) lg_8_54 (PC_28 hL).1) ?_
    refine ai (r_getI (pc := 16) (by decide +kernel : decode k_P_Reckoning_weekPay.2.1 16 = .ok (.getfield 97, 3)) lg_8_97 (by decide) (PC_13 hL).1) ?_
    rcases ite_some h with ⟨c1, h⟩ | ⟨c1, h⟩
    · refine ai (r_icmp_ge_t (pc := 19) (tgt := 42) (by decide +kernel : decode k_P_Reckoning_weekPay.2.1 19 = .ok (.if_icmp .ge (23), 3)) (by decide) c1) ?_
      exact (ai (r_sub [0] rfl) (P_Reckoning_weekPay_42_run hL h))
    · refine ai (r_icmp_ge_f (pc := 19) 42 (by decide +kernel : decode k_P_Reckoning_weekPay.2.1 19 = .ok (.if_icmp .ge (23), 3)) (by decide) c1) ?_
      refine ai (p_aload_n (pc := 22) (k := 0) (by decide +kernel : decode k_P_Reckoning_weekPay.2.1 22 = .ok (.aload_n 0, 1)) rfl rfl) ?_
      refine ai (p_getr (pc := 23) (PR_1024_28 hL) (by decide +kernel : decode k_P_Reckoning_weekPay.2.1 23 = .ok (.getfield 54, 3)) lg_8_54 (PC_28 hL).1) ?_
      refine ai (p_getr (pc := 26) (PR_513_13 hL) (by decide +kernel : decode k_P_Reckoning_weekPay.2.1 26 = .ok (.getfield 100, 3)) lg_8_100 (PC_13 hL).1) ?_
      refine ai (r_iload (pc := 29) (k := 1) (by decide +kernel : decode k_P_Reckoning_weekPay.2.1 29 = .ok (.iload 4, 2)) rfl) ?_
      obtain ⟨g2, h⟩ := gd_some h
      obtain ⟨a3, o4, h⟩ := gs_some h
      refine ai (p_aaldr (pc := 31) (j := 1) (by decide) o4 (by decide +kernel : decode k_P_Reckoning_weekPay.2.1 31 = .ok (.aaload, 1)) (PC_15 hL).1 (PC_15 hL).2 g2) ?_
      refine ai (r_lconst (pc := 32) (x := 0) (by decide +kernel : decode k_P_Reckoning_weekPay.2.1 32 = .ok (.lconst 0, 1)) (by decide)) ?_
      obtain ⟨t5, h⟩ := gt_some h
      obtain ⟨m6, hm6, h⟩ := vb_some h
      have hL : PL m6 := by rw [hm6]; exact hL
      have t7 : mT m6 a3 = 11 := by rw [hm6]; exact t5
      refine ai (p_putL (pc := 33) hm6 (by decide +kernel : decode k_P_Reckoning_weekPay.2.1 33 = .ok (.putfield 103, 3)) lp_8_103 t5) ?_
      obtain ⟨v8, hv8, h⟩ := vb_some h
      refine ai (e_iinc (pc := 36) (k := 1) hv8 ic_1 (by decide +kernel : decode k_P_Reckoning_weekPay.2.1 36 = .ok (.iinc 4 (1), 3)) rfl (by decide) rfl (ls2 := [(4, .int v8), (0, .ref 28)]) (i := 4)) ?_
      refine ai (r_goto (pc := 39) (tgt := 10) (by decide +kernel : decode k_P_Reckoning_weekPay.2.1 39 = .ok (.goto (-29), 3)) (by decide)) ?_
      exact (ai (r_sub [1, 0] rfl) (ih hL h))
set_option maxRecDepth 100000 in
set_option maxHeartbeats 4000000 in
theorem P_Reckoning_weekPay_run {x1 : Int32} {x2 : Int32} {x3 : Int32} {m m' : Mem} {r : Int32} (hL : PL m) (h : P_Reckoning_weekPay x1 x2 x3 m = some (r, m')) : Run k_P_Reckoning_weekPay 0 [(0, .ref 28), (1, .int x1), (2, .int x2), (3, .int x3)] [] m (some (.int r)) m' ∧ PL m' := by
  unfold P_Reckoning_weekPay at h
  refine ai (p_aload_n (pc := 0) (k := 0) (by decide +kernel : decode k_P_Reckoning_weekPay.2.1 0 = .ok (.aload_n 0, 1)) rfl rfl) ?_
  refine ai (r_iload_n (pc := 1) (k := 1) (by decide +kernel : decode k_P_Reckoning_weekPay.2.1 1 = .ok (.iload_n 1, 1)) rfl rfl) ?_
  refine ai (r_iload_n (pc := 2) (k := 2) (by decide +kernel : decode k_P_Reckoning_weekPay.2.1 2 = .ok (.iload_n 2, 1)) rfl rfl) ?_
  refine ai (r_iload_n (pc := 3) (k := 3) (by decide +kernel : decode k_P_Reckoning_weekPay.2.1 3 = .ok (.iload_n 3, 1)) rfl rfl) ?_
  obtain ⟨r1, m2, hr1, h⟩ := bn_some h
  have q3 := P_Reckoning_load_run hL hr1
  have c4 := (PC_28 hL).1
  have hL := q3.2
  refine ai (q_callV (pc := 4) (As := [.int x1, .int x2, .int x3]) (st := []) (st2 := []) (b := 28) rfl rfl (by decide +kernel : decode k_P_Reckoning_weekPay.2.1 4 = .ok (.invokevirtual 93, 3)) lc_8_93 mo_P_Reckoning_load ⟨Nat.le_of_ble_eq_true rfl, Nat.le_of_ble_eq_true rfl⟩ (Nat.le_of_ble_eq_true rfl) (Nat.le_of_ble_eq_true rfl) c4 q3.1) ?_
  refine ai (r_iconst (pc := 7) (by decide +kernel : decode k_P_Reckoning_weekPay.2.1 7 = .ok (.iconst 0, 1)) ic_0) ?_
  refine ai (e_istore (pc := 8) rfl (by decide +kernel : decode k_P_Reckoning_weekPay.2.1 8 = .ok (.istore 4, 2)) (by decide) rfl (ls2 := [(4, .int 0), (0, .ref 28), (1, .int x1), (2, .int x2), (3, .int x3)]) (i := 4)) ?_
  exact (ai (r_sub [1, 0] rfl) (P_Reckoning_weekPay_10_run hL h))
