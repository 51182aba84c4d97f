/-! written by gen/emit.py -/
set_option maxRecDepth 100000 in
set_option maxHeartbeats 4000000 in
theorem R_changes_136_run {k14 : Int32 → Int32 → Int32 → Int32 → Int32 → Int32 → Int32 → Mem → Option (Int32 × Mem)} {x1 : Int32} {x2 : Int32} {x3 : Int32} {x4 : Int32} {x5 : Int32} {x6 : Int32} {x7 : Int32} {m m' : Mem} {r : Int32} (hk14 : ∀ (x1 : Int32) (x2 : Int32) (x3 : Int32) (x4 : Int32) (x5 : Int32) (x6 : Int32) (x7 : Int32) (m : Mem) (r : Int32) (m' : Mem), RL m → k14 x1 x2 x3 x4 x5 x6 x7 m = some (r, m') → Run k_R_changes 14 [(0, .ref 0), (1, .int x1), (2, .int x2), (3, .int x3), (4, .int x4), (5, .int x5), (6, .int x6), (7, .int x7)] [] m (some (.int r)) m' ∧ RL m') (hL : RL m) (h : R_changes_136 k14 x1 x2 x3 x4 x5 x6 x7 m = some (r, m')) : Run k_R_changes 136 [(0, .ref 0), (1, .int x1), (2, .int x2), (3, .int x3), (4, .int x4), (5, .int x5), (6, .int x6), (7, .int x7)] [] m (some (.int r)) m' ∧ RL m' := by
  unfold R_changes_136 at h
  obtain ⟨v1, hv1, h⟩ := vb_some h
  refine ai (e_iinc (pc := 136) (k := 7) hv1 ic_1 (by decide +kernel : decode k_R_changes.2.1 136 = .ok (.iinc 7 (1), 3)) rfl (by decide) rfl) ?_
  refine ai (r_goto (pc := 139) (tgt := 14) (by decide +kernel : decode k_R_changes.2.1 139 = .ok (.goto (-125), 3)) (by decide)) ?_
  exact (ai (r_sub [1, 2, 3, 4, 5, 6, 7, 0] rfl) (hk14 x1 x2 x3 x4 x5 x6 v1 m _ _ hL h))
set_option maxRecDepth 100000 in
set_option maxHeartbeats 4000000 in
theorem R_changes_130_run {k14 : Int32 → Int32 → Int32 → Int32 → Int32 → Int32 → Int32 → Mem → Option (Int32 × Mem)} {k84 : Int32 → Int32 → Int32 → Int32 → Int32 → Int32 → Int32 → Int32 → Mem → Option (Int32 × Mem)} {x1 : Int32} {x2 : Int32} {x3 : Int32} {x4 : Int32} {x5 : Int32} {x6 : Int32} {x7 : Int32} {x9 : Int32} {m m' : Mem} {r : Int32} (hk14 : ∀ (x1 : Int32) (x2 : Int32) (x3 : Int32) (x4 : Int32) (x5 : Int32) (x6 : Int32) (x7 : Int32) (m : Mem) (r : Int32) (m' : Mem), RL m → k14 x1 x2 x3 x4 x5 x6 x7 m = some (r, m') → Run k_R_changes 14 [(0, .ref 0), (1, .int x1), (2, .int x2), (3, .int x3), (4, .int x4), (5, .int x5), (6, .int x6), (7, .int x7)] [] m (some (.int r)) m' ∧ RL m') (hk84 : ∀ (x1 : Int32) (x2 : Int32) (x3 : Int32) (x4 : Int32) (x5 : Int32) (x6 : Int32) (x7 : Int32) (x9 : Int32) (m : Mem) (r : Int32) (m' : Mem), RL m → k84 x1 x2 x3 x4 x5 x6 x7 x9 m = some (r, m') → Run k_R_changes 84 [(0, .ref 0), (1, .int x1), (2, .int x2), (3, .int x3), (4, .int x4), (5, .int x5), (6, .int x6), (7, .int x7), (9, .int x9)] [] m (some (.int r)) m' ∧ RL m') (hL : RL m) (h : R_changes_130 k14 k84 x1 x2 x3 x4 x5 x6 x7 x9 m = some (r, m')) : Run k_R_changes 130 [(0, .ref 0), (1, .int x1), (2, .int x2), (3, .int x3), (4, .int x4), (5, .int x5), (6, .int x6), (7, .int x7), (9, .int x9)] [] m (some (.int r)) m' ∧ RL m' := by
  unfold R_changes_130 at h
  obtain ⟨v1, hv1, h⟩ := vb_some h
  refine ai (e_iinc (pc := 130) (k := 8) hv1 ic_1 (by decide +kernel : decode k_R_changes.2.1 130 = .ok (.iinc 9 (1), 3)) rfl (by decide) rfl) ?_
  refine ai (r_goto (pc := 133) (tgt := 84) (by decide +kernel : decode k_R_changes.2.1 133 = .ok (.goto (-49), 3)) (by decide)) ?_
  exact (ai (r_sub [1, 2, 3, 4, 5, 6, 7, 8, 0] rfl) (hk84 x1 x2 x3 x4 x5 x6 x7 v1 m _ _ hL h))
set_option maxRecDepth 100000 in
set_option maxHeartbeats 4000000 in
theorem R_changes_84_run {k14 : Int32 → Int32 → Int32 → Int32 → Int32 → Int32 → Int32 → Mem → Option (Int32 × Mem)} {n : Nat} {x1 : Int32} {x2 : Int32} {x3 : Int32} {x4 : Int32} {x5 : Int32} {x6 : Int32} {x7 : Int32} {x9 : Int32} {m m' : Mem} {r : Int32} (hk14 : ∀ (x1 : Int32) (x2 : Int32) (x3 : Int32) (x4 : Int32) (x5 : Int32) (x6 : Int32) (x7 : Int32) (m : Mem) (r : Int32) (m' : Mem), RL m → k14 x1 x2 x3 x4 x5 x6 x7 m = some (r, m') → Run k_R_changes 14 [(0, .ref 0), (1, .int x1), (2, .int x2), (3, .int x3), (4, .int x4), (5, .int x5), (6, .int x6), (7, .int x7)] [] m (some (.int r)) m' ∧ RL m') (hL : RL m) (h : R_changes_84 k14 n x1 x2 x3 x4 x5 x6 x7 x9 m = some (r, m')) : Run k_R_changes 84 [(0, .ref 0), (1, .int x1), (2, .int x2), (3, .int x3), (4, .int x4), (5, .int x5), (6, .int x6), (7, .int x7), (9, .int x9)] [] m (some (.int r)) m' ∧ RL m' := by
  induction n generalizing x1 x2 x3 x4 x5 x6 x7 x9 m r m' with
  | zero => exact absurd h (by simp [R_changes_84])
  | succ n ih =>
    rw [R_changes_84.eq_2] at h
    refine ai (r_iload (pc := 84) (k := 8) (by decide +kernel : decode k_R_changes.2.1 84 = .ok (.iload 9, 2)) rfl) ?_
    refine ai (r_iload (pc := 86) (k := 7) (by decide +kernel : decode k_R_changes.2.1 86 = .ok (.iload 7, 2)) rfl) ?_
    rcases ite_some h with ⟨c1, h⟩ | ⟨c1, h⟩
    · refine ai (r_icmp_ge_t (pc := 88) (tgt := 136) (by decide +kernel : decode k_R_changes.2.1 88 = .ok (.if_icmp .ge (48), 3)) (by decide) c1) ?_
      exact (ai (r_sub [0, 1, 2, 3, 4, 5, 6, 7] rfl) (R_changes_136_run hk14 hL h))
    · refine ai (r_icmp_ge_f (pc := 88) 136 (by decide +kernel : decode k_R_changes.2.1 88 = .ok (.if_icmp .ge (48), 3)) (by decide) c1) ?_
      refine ai (p_aload_n (pc := 91) (k := 0) (by decide +kernel : decode k_R_changes.2.1 91 = .ok (.aload_n 0, 1)) rfl rfl) ?_
      refine ai (p_getr (pc := 92) (RR_1653_0 hL) (by decide +kernel : decode k_R_changes.2.1 92 = .ok (.getfield 260, 3)) lg_12_260 (RC_0 hL).1) ?_
      refine ai (r_iload (pc := 95) (k := 8) (by decide +kernel : decode k_R_changes.2.1 95 = .ok (.iload 9, 2)) rfl) ?_
      obtain ⟨g2, h⟩ := gd_some h
      refine ai (p_iald (pc := 97) (by decide +kernel : decode k_R_changes.2.1 97 = .ok (.iaload, 1)) (RC_78 hL).1 (RC_78 hL).2 g2) ?_
      refine ai (r_iload_n (pc := 98) (k := 1) (by decide +kernel : decode k_R_changes.2.1 98 = .ok (.iload_n 1, 1)) rfl rfl) ?_
      rcases ite_some h with ⟨c3, h⟩ | ⟨c3, h⟩
      · refine ai (r_icmp_ne_f (pc := 99) 130 (by decide +kernel : decode k_R_changes.2.1 99 = .ok (.if_icmp .ne (31), 3)) (by decide) c3) ?_
        refine ai (p_aload_n (pc := 102) (k := 0) (by decide +kernel : decode k_R_changes.2.1 102 = .ok (.aload_n 0, 1)) rfl rfl) ?_
        refine ai (p_getr (pc := 103) (RR_1648_0 hL) (by decide +kernel : decode k_R_changes.2.1 103 = .ok (.getfield 248, 3)) lg_12_248 (RC_0 hL).1) ?_
        refine ai (r_bipush (pc := 106) (by decide +kernel : decode k_R_changes.2.1 106 = .ok (.bipush (16), 2)) (by decide : _ = (16 : Int32))) ?_
        refine ai (p_aload_n (pc := 108) (k := 0) (by decide +kernel : decode k_R_changes.2.1 108 = .ok (.aload_n 0, 1)) rfl rfl) ?_
        refine ai (p_getr (pc := 109) (RR_1652_0 hL) (by decide +kernel : decode k_R_changes.2.1 109 = .ok (.getfield 257, 3)) lg_12_257 (RC_0 hL).1) ?_
        refine ai (r_iload (pc := 112) (k := 8) (by decide +kernel : decode k_R_changes.2.1 112 = .ok (.iload 9, 2)) rfl) ?_
        obtain ⟨g4, h⟩ := gd_some h
        refine ai (p_iald (pc := 114) (by decide +kernel : decode k_R_changes.2.1 114 = .ok (.iaload, 1)) (RC_77 hL).1 (RC_77 hL).2 g4) ?_
        refine ai (r_imul (pc := 115) (by decide +kernel : decode k_R_changes.2.1 115 = .ok (.imul, 1))) ?_
        refine ai (p_aload_n (pc := 116) (k := 0) (by decide +kernel : decode k_R_changes.2.1 116 = .ok (.aload_n 0, 1)) rfl rfl) ?_
        refine ai (p_getr (pc := 117) (RR_1652_0 hL) (by decide +kernel : decode k_R_changes.2.1 117 = .ok (.getfield 257, 3)) lg_12_257 (RC_0 hL).1) ?_
        refine ai (r_iload (pc := 120) (k := 7) (by decide +kernel : decode k_R_changes.2.1 120 = .ok (.iload 7, 2)) rfl) ?_
        obtain ⟨g5, h⟩ := gd_some h
        refine ai (p_iald (pc := 122) (by decide +kernel : decode k_R_changes.2.1 122 = .ok (.iaload, 1)) (RC_77 hL).1 (RC_77 hL).2 g5) ?_
        refine ai (r_iadd (pc := 123) (by decide +kernel : decode k_R_changes.2.1 123 = .ok (.iadd, 1))) ?_
        obtain ⟨g6, h⟩ := gd_some h
        refine ai (p_zald (pc := 124) (by decide +kernel : decode k_R_changes.2.1 124 = .ok (.baload, 1)) (RC_74 hL).1 (RC_74 hL).2 g6) ?_
        rcases ite_some h with ⟨c7, h⟩ | ⟨c7, h⟩
        · refine ai (r_if_eq_t (pc := 125) (tgt := 130) (by decide +kernel : decode k_R_changes.2.1 125 = .ok (.ifCond .eq (5), 3)) (by decide) c7) ?_
          exact (R_changes_130_run hk14 (fun _ _ _ _ _ _ _ _ _ _ _ q1 q3 => ih q1 q3) hL h)
        · refine ai (r_if_eq_f (pc := 125) 130 (by decide +kernel : decode k_R_changes.2.1 125 = .ok (.ifCond .eq (5), 3)) (by decide) c7) ?_
          refine ai (r_iconst (pc := 128) (by decide +kernel : decode k_R_changes.2.1 128 = .ok (.iconst (-1), 1)) ic_m1) ?_
          cases h
          exact ⟨r_iret rfl (by decide +kernel : decode k_R_changes.2.1 129 = .ok (.ireturn, 1)), hL⟩
      · refine ai (r_icmp_ne_t (pc := 99) (tgt := 130) (by decide +kernel : decode k_R_changes.2.1 99 = .ok (.if_icmp .ne (31), 3)) (by decide) c3) ?_
        exact (R_changes_130_run hk14 (fun _ _ _ _ _ _ _ _ _ _ _ q1 q3 => ih q1 q3) hL h)
set_option maxRecDepth 100000 in
set_option maxHeartbeats 4000000 in
theorem R_changes_81_run {k14 : Int32 → Int32 → Int32 → Int32 → Int32 → Int32 → Int32 → Mem → Option (Int32 × Mem)} {x1 : Int32} {x2 : Int32} {x3 : Int32} {x4 : Int32} {x5 : Int32} {x6 : Int32} {x7 : Int32} {m m' : Mem} {r : Int32} (hk14 : ∀ (x1 : Int32) (x2 : Int32) (x3 : Int32) (x4 : Int32) (x5 : Int32) (x6 : Int32) (x7 : Int32) (m : Mem) (r : Int32) (m' : Mem), RL m → k14 x1 x2 x3 x4 x5 x6 x7 m = some (r, m') → Run k_R_changes 14 [(0, .ref 0), (1, .int x1), (2, .int x2), (3, .int x3), (4, .int x4), (5, .int x5), (6, .int x6), (7, .int x7)] [] m (some (.int r)) m' ∧ RL m') (hL : RL m) (h : R_changes_81 k14 x1 x2 x3 x4 x5 x6 x7 m = some (r, m')) : Run k_R_changes 81 [(0, .ref 0), (1, .int x1), (2, .int x2), (3, .int x3), (4, .int x4), (5, .int x5), (6, .int x6), (7, .int x7)] [] m (some (.int r)) m' ∧ RL m' := by
  unfold R_changes_81 at h
  refine ai (r_iconst (pc := 81) (by decide +kernel : decode k_R_changes.2.1 81 = .ok (.iconst 0, 1)) ic_0) ?_
  refine ai (e_istore (pc := 82) rfl (by decide +kernel : decode k_R_changes.2.1 82 = .ok (.istore 9, 2)) (by decide) rfl) ?_
  exact (ai (r_sub [1, 2, 3, 4, 5, 6, 7, 8, 0] rfl) (R_changes_84_run hk14 hL h))
set_option maxRecDepth 100000 in
set_option maxHeartbeats 4000000 in
theorem R_changes_66_run {k14 : Int32 → Int32 → Int32 → Int32 → Int32 → Int32 → Int32 → Mem → Option (Int32 × Mem)} {x1 : Int32} {x2 : Int32} {x3 : Int32} {x4 : Int32} {x5 : Int32} {x6 : Int32} {x7 : Int32} {x8 : Int32} {m m' : Mem} {r : Int32} (hk14 : ∀ (x1 : Int32) (x2 : Int32) (x3 : Int32) (x4 : Int32) (x5 : Int32) (x6 : Int32) (x7 : Int32) (m : Mem) (r : Int32) (m' : Mem), RL m → k14 x1 x2 x3 x4 x5 x6 x7 m = some (r, m') → Run k_R_changes 14 [(0, .ref 0), (1, .int x1), (2, .int x2), (3, .int x3), (4, .int x4), (5, .int x5), (6, .int x6), (7, .int x7)] [] m (some (.int r)) m' ∧ RL m') (hL : RL m) (h : R_changes_66 k14 x1 x2 x3 x4 x5 x6 x7 x8 m = some (r, m')) : Run k_R_changes 66 [(0, .ref 0), (1, .int x1), (2, .int x2), (3, .int x3), (4, .int x4), (5, .int x5), (6, .int x6), (7, .int x7), (8, .int x8)] [] m (some (.int r)) m' ∧ RL m' := by
  unfold R_changes_66 at h
  refine ai (r_iload (pc := 66) (k := 8) (by decide +kernel : decode k_R_changes.2.1 66 = .ok (.iload 8, 2)) rfl) ?_
  refine ai (r_iload_n (pc := 68) (k := 3) (by decide +kernel : decode k_R_changes.2.1 68 = .ok (.iload_n 3, 1)) rfl rfl) ?_
  refine ai (r_iadd (pc := 69) (by decide +kernel : decode k_R_changes.2.1 69 = .ok (.iadd, 1))) ?_
  refine ai (r_iload (pc := 70) (k := 5) (by decide +kernel : decode k_R_changes.2.1 70 = .ok (.iload 5, 2)) rfl) ?_
  rcases ite_some h with ⟨c1, h⟩ | ⟨c1, h⟩
  · refine ai (r_icmp_ge_t (pc := 72) (tgt := 81) (by decide +kernel : decode k_R_changes.2.1 72 = .ok (.if_icmp .ge (9), 3)) (by decide) c1) ?_
    exact (ai (r_sub [0, 1, 2, 3, 4, 5, 6, 7] rfl) (R_changes_81_run hk14 hL h))
  · refine ai (r_icmp_ge_f (pc := 72) 81 (by decide +kernel : decode k_R_changes.2.1 72 = .ok (.if_icmp .ge (9), 3)) (by decide) c1) ?_
    refine ai (r_iload (pc := 75) (k := 8) (by decide +kernel : decode k_R_changes.2.1 75 = .ok (.iload 8, 2)) rfl) ?_
    refine ai (r_iload_n (pc := 77) (k := 3) (by decide +kernel : decode k_R_changes.2.1 77 = .ok (.iload_n 3, 1)) rfl rfl) ?_
    refine ai (r_iadd (pc := 78) (by decide +kernel : decode k_R_changes.2.1 78 = .ok (.iadd, 1))) ?_
    obtain ⟨v2, hv2, h⟩ := vb_some h
    refine ai (e_istore (pc := 79) hv2 (by decide +kernel : decode k_R_changes.2.1 79 = .ok (.istore 5, 2)) (by decide) rfl) ?_
    exact (ai (r_sub [1, 2, 3, 4, 5, 0, 6, 7] rfl) (R_changes_81_run hk14 hL h))
set_option maxRecDepth 100000 in
set_option maxHeartbeats 4000000 in
theorem R_changes_300_run {k165 : Int32 → Int32 → Int32 → Int32 → Int32 → Int32 → Int32 → Mem → Option (Int32 × Mem)} {x1 : Int32} {x2 : Int32} {x4 : Int32} {x5 : Int32} {x6 : Int32} {x7 : Int32} {x8 : Int32} {m m' : Mem} {r : Int32} (hk165 : ∀ (x1 : Int32) (x2 : Int32) (x4 : Int32) (x5 : Int32) (x6 : Int32) (x7 : Int32) (x8 : Int32) (m : Mem) (r : Int32) (m' : Mem), RL m → k165 x1 x2 x4 x5 x6 x7 x8 m = some (r, m') → Run k_R_changes 165 [(0, .ref 0), (1, .int x1), (2, .int x2), (4, .int x4), (5, .int x5), (6, .int x6), (7, .int x7), (8, .int x8)] [] m (some (.int r)) m' ∧ RL m') (hL : RL m) (h : R_changes_300 k165 x1 x2 x4 x5 x6 x7 x8 m = some (r, m')) : Run k_R_changes 300 [(0, .ref 0), (1, .int x1), (2, .int x2), (4, .int x4), (5, .int x5), (6, .int x6), (7, .int x7), (8, .int x8)] [] m (some (.int r)) m' ∧ RL m' := by
  unfold R_changes_300 at h
  obtain ⟨v1, hv1, h⟩ := vb_some h
  refine ai (e_iinc (pc := 300) (k := 7) hv1 ic_1 (by decide +kernel : decode k_R_changes.2.1 300 = .ok (.iinc 8 (1), 3)) rfl (by decide) rfl) ?_
  refine ai (r_goto (pc := 303) (tgt := 165) (by decide +kernel : decode k_R_changes.2.1 303 = .ok (.goto (-138), 3)) (by decide)) ?_
  exact (ai (r_sub [1, 2, 3, 4, 5, 6, 7, 0] rfl) (hk165 x1 x2 x4 x5 x6 x7 v1 m _ _ hL h))
set_option maxRecDepth 100000 in
set_option maxHeartbeats 4000000 in
theorem R_changes_254_run {k165 : Int32 → Int32 → Int32 → Int32 → Int32 → Int32 → Int32 → Mem → Option (Int32 × Mem)} {k217 : Int32 → Int32 → Int32 → Int32 → Int32 → Int32 → Int32 → Int32 → Int32 → Int32 → Mem → Option (Int32 × Mem)} {x1 : Int32} {x2 : Int32} {x4 : Int32} {x5 : Int32} {x6 : Int32} {x7 : Int32} {x8 : Int32} {x9 : Int32} {x10 : Int32} {x11 : Int32} {m m' : Mem} {r : Int32} (hk165 : ∀ (x1 : Int32) (x2 : Int32) (x4 : Int32) (x5 : Int32) (x6 : Int32) (x7 : Int32) (x8 : Int32) (m : Mem) (r : Int32) (m' : Mem), RL m → k165 x1 x2 x4 x5 x6 x7 x8 m = some (r, m') → Run k_R_changes 165 [(0, .ref 0), (1, .int x1), (2, .int x2), (4, .int x4), (5, .int x5), (6, .int x6), (7, .int x7), (8, .int x8)] [] m (some (.int r)) m' ∧ RL m') (hk217 : ∀ (x1 : Int32) (x2 : Int32) (x4 : Int32) (x5 : Int32) (x6 : Int32) (x7 : Int32) (x8 : Int32) (x9 : Int32) (x10 : Int32) (x11 : Int32) (m : Mem) (r : Int32) (m' : Mem), RL m → k217 x1 x2 x4 x5 x6 x7 x8 x9 x10 x11 m = some (r, m') → Run k_R_changes 217 [(0, .ref 0), (1, .int x1), (2, .int x2), (4, .int x4), (5, .int x5), (6, .int x6), (7, .int x7), (8, .int x8), (9, .int x9), (10, .int x10), (11, .int x11)] [] m (some (.int r)) m' ∧ RL m') (hL : RL m) (h : R_changes_254 k165 k217 x1 x2 x4 x5 x6 x7 x8 x9 x10 x11 m = some (r, m')) : Run k_R_changes 254 [(0, .ref 0), (1, .int x1), (2, .int x2), (4, .int x4), (5, .int x5), (6, .int x6), (7, .int x7), (8, .int x8), (9, .int x9), (10, .int x10), (11, .int x11)] [] m (some (.int r)) m' ∧ RL m' := by
  unfold R_changes_254 at h
  obtain ⟨v1, hv1, h⟩ := vb_some h
  refine ai (e_iinc (pc := 254) (k := 10) hv1 ic_1 (by decide +kernel : decode k_R_changes.2.1 254 = .ok (.iinc 11 (1), 3)) rfl (by decide) rfl) ?_
  refine ai (r_goto (pc := 257) (tgt := 217) (by decide +kernel : decode k_R_changes.2.1 257 = .ok (.goto (-40), 3)) (by decide)) ?_
  exact (ai (r_sub [1, 2, 3, 4, 5, 6, 7, 8, 9, 10, 0] rfl) (hk217 x1 x2 x4 x5 x6 x7 x8 x9 x10 v1 m _ _ hL h))
set_option maxRecDepth 100000 in
set_option maxHeartbeats 4000000 in
theorem R_changes_288_run {k165 : Int32 → Int32 → Int32 → Int32 → Int32 → Int32 → Int32 → Mem → Option (Int32 × Mem)} {x1 : Int32} {x2 : Int32} {x4 : Int32} {x5 : Int32} {x6 : Int32} {x8 : Int32} {x9 : Int32} {x10 : Int32} {m m' : Mem} {r : Int32} (hk165 : ∀ (x1 : Int32) (x2 : Int32) (x4 : Int32) (x5 : Int32) (x6 : Int32) (x7 : Int32) (x8 : Int32) (m : Mem) (r : Int32) (m' : Mem), RL m → k165 x1 x2 x4 x5 x6 x7 x8 m = some (r, m') → Run k_R_changes 165 [(0, .ref 0), (1, .int x1), (2, .int x2), (4, .int x4), (5, .int x5), (6, .int x6), (7, .int x7), (8, .int x8)] [] m (some (.int r)) m' ∧ RL m') (hL : RL m) (h : R_changes_288 k165 x1 x2 x4 x5 x6 x8 x9 x10 m = some (r, m')) : Run k_R_changes 288 [(0, .ref 0), (1, .int x1), (2, .int x2), (4, .int x4), (5, .int x5), (6, .int x6), (8, .int x8), (9, .int x9), (10, .int x10)] [] m (some (.int r)) m' ∧ RL m' := by
  unfold R_changes_288 at h
  refine ai (r_iload (pc := 288) (k := 8) (by decide +kernel : decode k_R_changes.2.1 288 = .ok (.iload 10, 2)) rfl) ?_
  refine ai (e_istore (pc := 290) rfl (by decide +kernel : decode k_R_changes.2.1 290 = .ok (.istore 7, 2)) (by decide) rfl) ?_
  refine ai (p_aload_n (pc := 292) (k := 1) (by decide +kernel : decode k_R_changes.2.1 292 = .ok (.aload_n 0, 1)) rfl rfl) ?_
  refine ai (p_getr (pc := 293) (RR_1654_0 hL) (by decide +kernel : decode k_R_changes.2.1 293 = .ok (.getfield 263, 3)) lg_12_263 (RC_0 hL).1) ?_
  refine ai (r_iload_n (pc := 296) (k := 2) (by decide +kernel : decode k_R_changes.2.1 296 = .ok (.iload_n 1, 1)) rfl rfl) ?_
  refine ai (r_iload (pc := 297) (k := 8) (by decide +kernel : decode k_R_changes.2.1 297 = .ok (.iload 9, 2)) rfl) ?_
  obtain ⟨g1, h⟩ := gd_some h
  have c2 := (RC_79 hL).1
  have c3 := (RC_79 hL).2
  obtain ⟨m4, hm4, h⟩ := vb_some h
  have hL : RL m4 := by rw [hm4]; exact hL
  refine ai (p_iast (pc := 299) hm4 (by decide +kernel : decode k_R_changes.2.1 299 = .ok (.iastore, 1)) c2 c3 g1) ?_
  exact (ai (r_sub [1, 2, 3, 4, 5, 6, 0, 7] rfl) (R_changes_300_run hk165 hL h))
set_option maxRecDepth 100000 in
set_option maxHeartbeats 4000000 in
theorem R_changes_260_run {k165 : Int32 → Int32 → Int32 → Int32 → Int32 → Int32 → Int32 → Mem → Option (Int32 × Mem)} {x1 : Int32} {x2 : Int32} {x4 : Int32} {x5 : Int32} {x6 : Int32} {x7 : Int32} {x8 : Int32} {x9 : Int32} {x10 : Int32} {m m' : Mem} {r : Int32} (hk165 : ∀ (x1 : Int32) (x2 : Int32) (x4 : Int32) (x5 : Int32) (x6 : Int32) (x7 : Int32) (x8 : Int32) (m : Mem) (r : Int32) (m' : Mem), RL m → k165 x1 x2 x4 x5 x6 x7 x8 m = some (r, m') → Run k_R_changes 165 [(0, .ref 0), (1, .int x1), (2, .int x2), (4, .int x4), (5, .int x5), (6, .int x6), (7, .int x7), (8, .int x8)] [] m (some (.int r)) m' ∧ RL m') (hL : RL m) (h : R_changes_260 k165 x1 x2 x4 x5 x6 x7 x8 x9 x10 m = some (r, m')) : Run k_R_changes 260 [(0, .ref 0), (1, .int x1), (2, .int x2), (4, .int x4), (5, .int x5), (6, .int x6), (7, .int x7), (8, .int x8), (9, .int x9), (10, .int x10)] [] m (some (.int r)) m' ∧ RL m' := by
  unfold R_changes_260 at h
  refine ai (r_iload (pc := 260) (k := 9) (by decide +kernel : decode k_R_changes.2.1 260 = .ok (.iload 10, 2)) rfl) ?_
  refine ai (r_iload (pc := 262) (k := 6) (by decide +kernel : decode k_R_changes.2.1 262 = .ok (.iload 7, 2)) rfl) ?_
  rcases ite_some h with ⟨c1, h⟩ | ⟨c1, h⟩
  · refine ai (r_icmp_lt_t (pc := 264) (tgt := 300) (by decide +kernel : decode k_R_changes.2.1 264 = .ok (.if_icmp .lt (36), 3)) (by decide) c1) ?_
    exact (ai (r_sub [0, 1, 2, 3, 4, 5, 6, 7] rfl) (R_changes_300_run hk165 hL h))
  · refine ai (r_icmp_lt_f (pc := 264) 300 (by decide +kernel : decode k_R_changes.2.1 264 = .ok (.if_icmp .lt (36), 3)) (by decide) c1) ?_
    refine ai (r_iload (pc := 267) (k := 9) (by decide +kernel : decode k_R_changes.2.1 267 = .ok (.iload 10, 2)) rfl) ?_
    refine ai (r_iload (pc := 269) (k := 6) (by decide +kernel : decode k_R_changes.2.1 269 = .ok (.iload 7, 2)) rfl) ?_
    rcases ite_some h with ⟨c2, h⟩ | ⟨c2, h⟩
    · refine ai (r_icmp_ne_f (pc := 271) 288 (by decide +kernel : decode k_R_changes.2.1 271 = .ok (.if_icmp .ne (17), 3)) (by decide) c2) ?_
      refine ai (r_iload (pc := 274) (k := 8) (by decide +kernel : decode k_R_changes.2.1 274 = .ok (.iload 9, 2)) rfl) ?_
      refine ai (p_aload_n (pc := 276) (k := 0) (by decide +kernel : decode k_R_changes.2.1 276 = .ok (.aload_n 0, 1)) rfl rfl) ?_
      refine ai (p_getr (pc := 277) (RR_1654_0 hL) (by decide +kernel : decode k_R_changes.2.1 277 = .ok (.getfield 263, 3)) lg_12_263 (RC_0 hL).1) ?_
      refine ai (r_iload_n (pc := 280) (k := 1) (by decide +kernel : decode k_R_changes.2.1 280 = .ok (.iload_n 1, 1)) rfl rfl) ?_
      obtain ⟨g3, h⟩ := gd_some h
      refine ai (p_iald (pc := 281) (by decide +kernel : decode k_R_changes.2.1 281 = .ok (.iaload, 1)) (RC_79 hL).1 (RC_79 hL).2 g3) ?_
      rcases ite_some h with ⟨c4, h⟩ | ⟨c4, h⟩
      · refine ai (r_icmp_lt_t (pc := 282) (tgt := 288) (by decide +kernel : decode k_R_changes.2.1 282 = .ok (.if_icmp .lt (6), 3)) (by decide) c4) ?_
        exact (ai (r_sub [0, 1, 2, 3, 4, 5, 7, 8, 9] rfl) (R_changes_288_run hk165 hL h))
      · refine ai (r_icmp_lt_f (pc := 282) 288 (by decide +kernel : decode k_R_changes.2.1 282 = .ok (.if_icmp .lt (6), 3)) (by decide) c4) ?_
        refine ai (r_goto (pc := 285) (tgt := 300) (by decide +kernel : decode k_R_changes.2.1 285 = .ok (.goto (15), 3)) (by decide)) ?_
        exact (ai (r_sub [0, 1, 2, 3, 4, 5, 6, 7] rfl) (R_changes_300_run hk165 hL h))
    · refine ai (r_icmp_ne_t (pc := 271) (tgt := 288) (by decide +kernel : decode k_R_changes.2.1 271 = .ok (.if_icmp .ne (17), 3)) (by decide) c2) ?_
      exact (ai (r_sub [0, 1, 2, 3, 4, 5, 7, 8, 9] rfl) (R_changes_288_run hk165 hL h))
set_option maxRecDepth 100000 in
set_option maxHeartbeats 4000000 in
theorem R_changes_217_run {k165 : Int32 → Int32 → Int32 → Int32 → Int32 → Int32 → Int32 → Mem → Option (Int32 × Mem)} {n : Nat} {x1 : Int32} {x2 : Int32} {x4 : Int32} {x5 : Int32} {x6 : Int32} {x7 : Int32} {x8 : Int32} {x9 : Int32} {x10 : Int32} {x11 : Int32} {m m' : Mem} {r : Int32} (hk165 : ∀ (x1 : Int32) (x2 : Int32) (x4 : Int32) (x5 : Int32) (x6 : Int32) (x7 : Int32) (x8 : Int32) (m : Mem) (r : Int32) (m' : Mem), RL m → k165 x1 x2 x4 x5 x6 x7 x8 m = some (r, m') → Run k_R_changes 165 [(0, .ref 0), (1, .int x1), (2, .int x2), (4, .int x4), (5, .int x5), (6, .int x6), (7, .int x7), (8, .int x8)] [] m (some (.int r)) m' ∧ RL m') (hL : RL m) (h : R_changes_217 k165 n x1 x2 x4 x5 x6 x7 x8 x9 x10 x11 m = some (r, m')) : Run k_R_changes 217 [(0, .ref 0), (1, .int x1), (2, .int x2), (4, .int x4), (5, .int x5), (6, .int x6), (7, .int x7), (8, .int x8), (9, .int x9), (10, .int x10), (11, .int x11)] [] m (some (.int r)) m' ∧ RL m' := by
  induction n generalizing x1 x2 x4 x5 x6 x7 x8 x9 x10 x11 m r m' with
  | zero => exact absurd h (by simp [R_changes_217])
  | succ n ih =>
    rw [R_changes_217.eq_2] at h
    refine ai (r_iload (pc := 217) (k := 10) (by decide +kernel : decode k_R_changes.2.1 217 = .ok (.iload 11, 2)) rfl) ?_
    refine ai (r_iload_n (pc := 219) (k := 2) (by decide +kernel : decode k_R_changes.2.1 219 = .ok (.iload_n 2, 1)) rfl rfl) ?_
    rcases ite_some h with ⟨c1, h⟩ | ⟨c1, h⟩
    · refine ai (r_icmp_ge_t (pc := 220) (tgt := 260) (by decide +kernel : decode k_R_changes.2.1 220 = .ok (.if_icmp .ge (40), 3)) (by decide) c1) ?_
      exact (ai (r_sub [0, 1, 2, 3, 4, 5, 6, 7, 8, 9] rfl) (R_changes_260_run hk165 hL h))
    · refine ai (r_icmp_ge_f (pc := 220) 260 (by decide +kernel : decode k_R_changes.2.1 220 = .ok (.if_icmp .ge (40), 3)) (by decide) c1) ?_
      refine ai (p_aload_n (pc := 223) (k := 0) (by decide +kernel : decode k_R_changes.2.1 223 = .ok (.aload_n 0, 1)) rfl rfl) ?_
      refine ai (p_getr (pc := 224) (RR_1653_0 hL) (by decide +kernel : decode k_R_changes.2.1 224 = .ok (.getfield 260, 3)) lg_12_260 (RC_0 hL).1) ?_
      refine ai (r_iload (pc := 227) (k := 10) (by decide +kernel : decode k_R_changes.2.1 227 = .ok (.iload 11, 2)) rfl) ?_
      obtain ⟨g2, h⟩ := gd_some h
      refine ai (p_iald (pc := 229) (by decide +kernel : decode k_R_changes.2.1 229 = .ok (.iaload, 1)) (RC_78 hL).1 (RC_78 hL).2 g2) ?_
      refine ai (r_iload_n (pc := 230) (k := 1) (by decide +kernel : decode k_R_changes.2.1 230 = .ok (.iload_n 1, 1)) rfl rfl) ?_
      rcases ite_some h with ⟨c3, h⟩ | ⟨c3, h⟩
      · refine ai (r_icmp_ne_f (pc := 231) 254 (by decide +kernel : decode k_R_changes.2.1 231 = .ok (.if_icmp .ne (23), 3)) (by decide) c3) ?_
        refine ai (p_aload_n (pc := 234) (k := 0) (by decide +kernel : decode k_R_changes.2.1 234 = .ok (.aload_n 0, 1)) rfl rfl) ?_
        refine ai (p_getr (pc := 235) (RR_1647_0 hL) (by decide +kernel : decode k_R_changes.2.1 235 = .ok (.getfield 245, 3)) lg_12_245 (RC_0 hL).1) ?_
        refine ai (p_aload_n (pc := 238) (k := 0) (by decide +kernel : decode k_R_changes.2.1 238 = .ok (.aload_n 0, 1)) rfl rfl) ?_
        refine ai (p_getr (pc := 239) (RR_1652_0 hL) (by decide +kernel : decode k_R_changes.2.1 239 = .ok (.getfield 257, 3)) lg_12_257 (RC_0 hL).1) ?_
        refine ai (r_iload (pc := 242) (k := 10) (by decide +kernel : decode k_R_changes.2.1 242 = .ok (.iload 11, 2)) rfl) ?_
        obtain ⟨g4, h⟩ := gd_some h
        refine ai (p_iald (pc := 244) (by decide +kernel : decode k_R_changes.2.1 244 = .ok (.iaload, 1)) (RC_77 hL).1 (RC_77 hL).2 g4) ?_
        obtain ⟨g5, h⟩ := gd_some h
        refine ai (p_iald (pc := 245) (by decide +kernel : decode k_R_changes.2.1 245 = .ok (.iaload, 1)) (RC_73 hL).1 (RC_73 hL).2 g5) ?_
        refine ai (r_iload (pc := 246) (k := 8) (by decide +kernel : decode k_R_changes.2.1 246 = .ok (.iload 9, 2)) rfl) ?_
        rcases ite_some h with ⟨c6, h⟩ | ⟨c6, h⟩
        · refine ai (r_icmp_ne_f (pc := 248) 254 (by decide +kernel : decode k_R_changes.2.1 248 = .ok (.if_icmp .ne (6), 3)) (by decide) c6) ?_
          obtain ⟨v7, hv7, h⟩ := vb_some h
          refine ai (e_iinc (pc := 251) (k := 9) hv7 ic_1 (by decide +kernel : decode k_R_changes.2.1 251 = .ok (.iinc 10 (1), 3)) rfl (by decide) rfl) ?_
          exact (ai (r_sub [1, 2, 3, 4, 5, 6, 7, 8, 9, 0, 10] rfl) (R_changes_254_run hk165 (fun _ _ _ _ _ _ _ _ _ _ _ _ _ q1 q3 => ih q1 q3) hL h))
        · refine ai (r_icmp_ne_t (pc := 248) (tgt := 254) (by decide +kernel : decode k_R_changes.2.1 248 = .ok (.if_icmp .ne (6), 3)) (by decide) c6) ?_
          exact (R_changes_254_run hk165 (fun _ _ _ _ _ _ _ _ _ _ _ _ _ q1 q3 => ih q1 q3) hL h)
      · refine ai (r_icmp_ne_t (pc := 231) (tgt := 254) (by decide +kernel : decode k_R_changes.2.1 231 = .ok (.if_icmp .ne (23), 3)) (by decide) c3) ?_
        exact (R_changes_254_run hk165 (fun _ _ _ _ _ _ _ _ _ _ _ _ _ q1 q3 => ih q1 q3) hL h)
set_option maxRecDepth 100000 in
set_option maxHeartbeats 4000000 in
theorem R_changes_306_run {x6 : Int32} {x7 : Int32} {m m' : Mem} {r : Int32} (hL : RL m) (h : R_changes_306 x6 x7 m = some (r, m')) : Run k_R_changes 306 [(6, .int x6), (7, .int x7)] [] m (some (.int r)) m' ∧ RL m' := by
  unfold R_changes_306 at h
  refine ai (r_iload (pc := 306) (k := 0) (by decide +kernel : decode k_R_changes.2.1 306 = .ok (.iload 6, 2)) rfl) ?_
  refine ai (r_iload (pc := 308) (k := 1) (by decide +kernel : decode k_R_changes.2.1 308 = .ok (.iload 7, 2)) rfl) ?_
  refine ai (r_isub (pc := 310) (by decide +kernel : decode k_R_changes.2.1 310 = .ok (.isub, 1))) ?_
  cases h
  exact ⟨r_iret rfl (by decide +kernel : decode k_R_changes.2.1 311 = .ok (.ireturn, 1)), hL⟩
set_option maxRecDepth 100000 in
set_option maxHeartbeats 4000000 in
theorem R_changes_165_run {n : Nat} {x1 : Int32} {x2 : Int32} {x4 : Int32} {x5 : Int32} {x6 : Int32} {x7 : Int32} {x8 : Int32} {m m' : Mem} {r : Int32} (hL : RL m) (h : R_changes_165 n x1 x2 x4 x5 x6 x7 x8 m = some (r, m')) : Run k_R_changes 165 [(0, .ref 0), (1, .int x1), (2, .int x2), (4, .int x4), (5, .int x5), (6, .int x6), (7, .int x7), (8, .int x8)] [] m (some (.int r)) m' ∧ RL m' := by
  induction n generalizing x1 x2 x4 x5 x6 x7 x8 m r m' with
  | zero => exact absurd h (by simp [R_changes_165])
  | succ n ih =>
    rw [R_changes_165.eq_2] at h
    refine ai (r_iload (pc := 165) (k := 7) (by decide +kernel : decode k_R_changes.2.1 165 = .ok (.iload 8, 2)) rfl) ?_
    refine ai (r_iload_n (pc := 167) (k := 2) (by decide +kernel : decode k_R_changes.2.1 167 = .ok (.iload_n 2, 1)) rfl rfl) ?_
    rcases ite_some h with ⟨c1, h⟩ | ⟨c1, h⟩
    · refine ai (r_icmp_ge_t (pc := 168) (tgt := 306) (by decide +kernel : decode k_R_changes.2.1 168 = .ok (.if_icmp .ge (138), 3)) (by decide) c1) ?_
      exact (ai (r_sub [5, 6] rfl) (R_changes_306_run hL h))
    · refine ai (r_icmp_ge_f (pc := 168) 306 (by decide +kernel : decode k_R_changes.2.1 168 = .ok (.if_icmp .ge (138), 3)) (by decide) c1) ?_
      refine ai (p_aload_n (pc := 171) (k := 0) (by decide +kernel : decode k_R_changes.2.1 171 = .ok (.aload_n 0, 1)) rfl rfl) ?_
      refine ai (p_getr (pc := 172) (RR_1647_0 hL) (by decide +kernel : decode k_R_changes.2.1 172 = .ok (.getfield 245, 3)) lg_12_245 (RC_0 hL).1) ?_
      refine ai (p_aload_n (pc := 175) (k := 0) (by decide +kernel : decode k_R_changes.2.1 175 = .ok (.aload_n 0, 1)) rfl rfl) ?_
      refine ai (p_getr (pc := 176) (RR_1652_0 hL) (by decide +kernel : decode k_R_changes.2.1 176 = .ok (.getfield 257, 3)) lg_12_257 (RC_0 hL).1) ?_
      refine ai (r_iload (pc := 179) (k := 7) (by decide +kernel : decode k_R_changes.2.1 179 = .ok (.iload 8, 2)) rfl) ?_
      obtain ⟨g2, h⟩ := gd_some h
      refine ai (p_iald (pc := 181) (by decide +kernel : decode k_R_changes.2.1 181 = .ok (.iaload, 1)) (RC_77 hL).1 (RC_77 hL).2 g2) ?_
      obtain ⟨g3, h⟩ := gd_some h
      refine ai (p_iald (pc := 182) (by decide +kernel : decode k_R_changes.2.1 182 = .ok (.iaload, 1)) (RC_73 hL).1 (RC_73 hL).2 g3) ?_
      obtain ⟨v4, hv4, h⟩ := vb_some h
      refine ai (e_istore (pc := 183) hv4 (by decide +kernel : decode k_R_changes.2.1 183 = .ok (.istore 9, 2)) (by decide) rfl) ?_
      refine ai (p_aload_n (pc := 185) (k := 1) (by decide +kernel : decode k_R_changes.2.1 185 = .ok (.aload_n 0, 1)) rfl rfl) ?_
      refine ai (p_getr (pc := 186) (RR_1653_0 hL) (by decide +kernel : decode k_R_changes.2.1 186 = .ok (.getfield 260, 3)) lg_12_260 (RC_0 hL).1) ?_
      refine ai (r_iload (pc := 189) (k := 8) (by decide +kernel : decode k_R_changes.2.1 189 = .ok (.iload 8, 2)) rfl) ?_
      obtain ⟨g5, h⟩ := gd_some h
      refine ai (p_iald (pc := 191) (by decide +kernel : decode k_R_changes.2.1 191 = .ok (.iaload, 1)) (RC_78 hL).1 (RC_78 hL).2 g5) ?_
      refine ai (r_iload_n (pc := 192) (k := 2) (by decide +kernel : decode k_R_changes.2.1 192 = .ok (.iload_n 1, 1)) rfl rfl) ?_
      rcases ite_some h with ⟨c6, h⟩ | ⟨c6, h⟩
      · refine ai (r_icmp_ne_f (pc := 193) 300 (by decide +kernel : decode k_R_changes.2.1 193 = .ok (.if_icmp .ne (107), 3)) (by decide) c6) ?_
        refine ai (r_iload (pc := 196) (k := 0) (by decide +kernel : decode k_R_changes.2.1 196 = .ok (.iload 9, 2)) rfl) ?_
        refine ai (r_iload (pc := 198) (k := 4) (by decide +kernel : decode k_R_changes.2.1 198 = .ok (.iload 4, 2)) rfl) ?_
        refine ai (r_iload (pc := 200) (k := 5) (by decide +kernel : decode k_R_changes.2.1 200 = .ok (.iload 5, 2)) rfl) ?_
        obtain ⟨r7, hr7, h⟩ := bp_some h
        refine ai (q_callS (pc := 202) (As := [.int v4, .int x4, .int x5]) (st := []) (st2 := [.int r7]) rfl rfl (by decide +kernel : decode k_R_changes.2.1 202 = .ok (.invokestatic 433, 3)) lc_12_433 mo_R_in ⟨Nat.le_of_ble_eq_true rfl, Nat.le_of_ble_eq_true rfl⟩ (Nat.le_of_ble_eq_true rfl) (Nat.le_of_ble_eq_true rfl) (R_in_run hr7)) ?_
        rcases ite_some h with ⟨c8, h⟩ | ⟨c8, h⟩
        · refine ai (r_if_ne_f (pc := 205) 211 (by decide +kernel : decode k_R_changes.2.1 205 = .ok (.ifCond .ne (6), 3)) (by decide) c8) ?_
          refine ai (r_goto (pc := 208) (tgt := 300) (by decide +kernel : decode k_R_changes.2.1 208 = .ok (.goto (92), 3)) (by decide)) ?_
          exact (ai (r_sub [1, 2, 3, 4, 5, 6, 7, 8] rfl) (R_changes_300_run (fun _ _ _ _ _ _ _ _ _ _ q1 q3 => ih q1 q3) hL h))
        · refine ai (r_if_ne_t (pc := 205) (tgt := 211) (by decide +kernel : decode k_R_changes.2.1 205 = .ok (.ifCond .ne (6), 3)) (by decide) c8) ?_
          refine ai (r_iconst (pc := 211) (by decide +kernel : decode k_R_changes.2.1 211 = .ok (.iconst 0, 1)) ic_0) ?_
          refine ai (e_istore (pc := 212) rfl (by decide +kernel : decode k_R_changes.2.1 212 = .ok (.istore 10, 2)) (by decide) rfl) ?_
          refine ai (r_iconst (pc := 214) (by decide +kernel : decode k_R_changes.2.1 214 = .ok (.iconst 0, 1)) ic_0) ?_
          refine ai (e_istore (pc := 215) rfl (by decide +kernel : decode k_R_changes.2.1 215 = .ok (.istore 11, 2)) (by decide) rfl) ?_
          exact (ai (r_sub [3, 4, 5, 6, 7, 8, 9, 10, 2, 1, 0] rfl) (R_changes_217_run (fun _ _ _ _ _ _ _ _ _ _ q1 q3 => ih q1 q3) hL h))
      · refine ai (r_icmp_ne_t (pc := 193) (tgt := 300) (by decide +kernel : decode k_R_changes.2.1 193 = .ok (.if_icmp .ne (107), 3)) (by decide) c6) ?_
        exact (ai (r_sub [1, 2, 3, 4, 5, 6, 7, 8] rfl) (R_changes_300_run (fun _ _ _ _ _ _ _ _ _ _ q1 q3 => ih q1 q3) hL h))
set_option maxRecDepth 100000 in
set_option maxHeartbeats 4000000 in
theorem R_changes_142_run {x1 : Int32} {x2 : Int32} {x4 : Int32} {x5 : Int32} {x6 : Int32} {m m' : Mem} {r : Int32} (hL : RL m) (h : R_changes_142 x1 x2 x4 x5 x6 m = some (r, m')) : Run k_R_changes 142 [(0, .ref 0), (1, .int x1), (2, .int x2), (4, .int x4), (5, .int x5), (6, .int x6)] [] m (some (.int r)) m' ∧ RL m' := by
  unfold R_changes_142 at h
  refine ai (r_iload (pc := 142) (k := 3) (by decide +kernel : decode k_R_changes.2.1 142 = .ok (.iload 4, 2)) rfl) ?_
  refine ai (r_iload (pc := 144) (k := 4) (by decide +kernel : decode k_R_changes.2.1 144 = .ok (.iload 5, 2)) rfl) ?_
  rcases ite_some h with ⟨c1, h⟩ | ⟨c1, h⟩
  · refine ai (r_icmp_le_t (pc := 146) (tgt := 151) (by decide +kernel : decode k_R_changes.2.1 146 = .ok (.if_icmp .le (5), 3)) (by decide) c1) ?_
    refine ai (r_iconst (pc := 151) (by decide +kernel : decode k_R_changes.2.1 151 = .ok (.iconst 0, 1)) ic_0) ?_
    refine ai (e_istore (pc := 152) rfl (by decide +kernel : decode k_R_changes.2.1 152 = .ok (.istore 7, 2)) (by decide) rfl) ?_
    refine ai (p_aload_n (pc := 154) (k := 1) (by decide +kernel : decode k_R_changes.2.1 154 = .ok (.aload_n 0, 1)) rfl rfl) ?_
    refine ai (p_getr (pc := 155) (RR_1654_0 hL) (by decide +kernel : decode k_R_changes.2.1 155 = .ok (.getfield 263, 3)) lg_12_263 (RC_0 hL).1) ?_
    refine ai (r_iload_n (pc := 158) (k := 2) (by decide +kernel : decode k_R_changes.2.1 158 = .ok (.iload_n 1, 1)) rfl rfl) ?_
    refine ai (r_iload (pc := 159) (k := 4) (by decide +kernel : decode k_R_changes.2.1 159 = .ok (.iload 4, 2)) rfl) ?_
    obtain ⟨g2, h⟩ := gd_some h
    have c3 := (RC_79 hL).1
    have c4 := (RC_79 hL).2
    obtain ⟨m5, hm5, h⟩ := vb_some h
    have hL : RL m5 := by rw [hm5]; exact hL
    refine ai (p_iast (pc := 161) hm5 (by decide +kernel : decode k_R_changes.2.1 161 = .ok (.iastore, 1)) c3 c4 g2) ?_
    refine ai (r_iconst (pc := 162) (by decide +kernel : decode k_R_changes.2.1 162 = .ok (.iconst 0, 1)) ic_0) ?_
    refine ai (e_istore (pc := 163) rfl (by decide +kernel : decode k_R_changes.2.1 163 = .ok (.istore 8, 2)) (by decide) rfl) ?_
    exact (ai (r_sub [2, 3, 4, 5, 6, 7, 1, 0] rfl) (R_changes_165_run hL h))
  · refine ai (r_icmp_le_f (pc := 146) 151 (by decide +kernel : decode k_R_changes.2.1 146 = .ok (.if_icmp .le (5), 3)) (by decide) c1) ?_
    refine ai (r_iconst (pc := 149) (by decide +kernel : decode k_R_changes.2.1 149 = .ok (.iconst (-1), 1)) ic_m1) ?_
    cases h
    exact ⟨r_iret rfl (by decide +kernel : decode k_R_changes.2.1 150 = .ok (.ireturn, 1)), hL⟩
set_option maxRecDepth 100000 in
set_option maxHeartbeats 4000000 in
theorem R_changes_14_run {n : Nat} {x1 : Int32} {x2 : Int32} {x3 : Int32} {x4 : Int32} {x5 : Int32} {x6 : Int32} {x7 : Int32} {m m' : Mem} {r : Int32} (hL : RL m) (h : R_changes_14 n x1 x2 x3 x4 x5 x6 x7 m = some (r, m')) : Run k_R_changes 14 [(0, .ref 0), (1, .int x1), (2, .int x2), (3, .int x3), (4, .int x4), (5, .int x5), (6, .int x6), (7, .int x7)] [] m (some (.int r)) m' ∧ RL m' := by
  induction n generalizing x1 x2 x3 x4 x5 x6 x7 m r m' with
  | zero => exact absurd h (by simp [R_changes_14])
  | succ n ih =>
    rw [R_changes_14.eq_2] at h
    refine ai (r_iload (pc := 14) (k := 7) (by decide +kernel : decode k_R_changes.2.1 14 = .ok (.iload 7, 2)) rfl) ?_
    refine ai (r_iload_n (pc := 16) (k := 2) (by decide +kernel : decode k_R_changes.2.1 16 = .ok (.iload_n 2, 1)) rfl rfl) ?_
    rcases ite_some h with ⟨c1, h⟩ | ⟨c1, h⟩
    · refine ai (r_icmp_ge_t (pc := 17) (tgt := 142) (by decide +kernel : decode k_R_changes.2.1 17 = .ok (.if_icmp .ge (125), 3)) (by decide) c1) ?_
      exact (ai (r_sub [0, 1, 2, 4, 5, 6] rfl) (R_changes_142_run hL h))
    · refine ai (r_icmp_ge_f (pc := 17) 142 (by decide +kernel : decode k_R_changes.2.1 17 = .ok (.if_icmp .ge (125), 3)) (by decide) c1) ?_
      refine ai (p_aload_n (pc := 20) (k := 0) (by decide +kernel : decode k_R_changes.2.1 20 = .ok (.aload_n 0, 1)) rfl rfl) ?_
      refine ai (p_getr (pc := 21) (RR_1653_0 hL) (by decide +kernel : decode k_R_changes.2.1 21 = .ok (.getfield 260, 3)) lg_12_260 (RC_0 hL).1) ?_
      refine ai (r_iload (pc := 24) (k := 7) (by decide +kernel : decode k_R_changes.2.1 24 = .ok (.iload 7, 2)) rfl) ?_
      obtain ⟨g2, h⟩ := gd_some h
      refine ai (p_iald (pc := 26) (by decide +kernel : decode k_R_changes.2.1 26 = .ok (.iaload, 1)) (RC_78 hL).1 (RC_78 hL).2 g2) ?_
      refine ai (r_iload_n (pc := 27) (k := 1) (by decide +kernel : decode k_R_changes.2.1 27 = .ok (.iload_n 1, 1)) rfl rfl) ?_
      rcases ite_some h with ⟨c3, h⟩ | ⟨c3, h⟩
      · refine ai (r_icmp_eq_t (pc := 28) (tgt := 34) (by decide +kernel : decode k_R_changes.2.1 28 = .ok (.if_icmp .eq (6), 3)) (by decide) c3) ?_
        refine ai (p_aload_n (pc := 34) (k := 0) (by decide +kernel : decode k_R_changes.2.1 34 = .ok (.aload_n 0, 1)) rfl rfl) ?_
        refine ai (p_getr (pc := 35) (RR_1647_0 hL) (by decide +kernel : decode k_R_changes.2.1 35 = .ok (.getfield 245, 3)) lg_12_245 (RC_0 hL).1) ?_
        refine ai (p_aload_n (pc := 38) (k := 0) (by decide +kernel : decode k_R_changes.2.1 38 = .ok (.aload_n 0, 1)) rfl rfl) ?_
        refine ai (p_getr (pc := 39) (RR_1652_0 hL) (by decide +kernel : decode k_R_changes.2.1 39 = .ok (.getfield 257, 3)) lg_12_257 (RC_0 hL).1) ?_
        refine ai (r_iload (pc := 42) (k := 7) (by decide +kernel : decode k_R_changes.2.1 42 = .ok (.iload 7, 2)) rfl) ?_
        obtain ⟨g4, h⟩ := gd_some h
        refine ai (p_iald (pc := 44) (by decide +kernel : decode k_R_changes.2.1 44 = .ok (.iaload, 1)) (RC_77 hL).1 (RC_77 hL).2 g4) ?_
        obtain ⟨g5, h⟩ := gd_some h
        refine ai (p_iald (pc := 45) (by decide +kernel : decode k_R_changes.2.1 45 = .ok (.iaload, 1)) (RC_73 hL).1 (RC_73 hL).2 g5) ?_
        obtain ⟨v6, hv6, h⟩ := vb_some h
        refine ai (e_istore (pc := 46) hv6 (by decide +kernel : decode k_R_changes.2.1 46 = .ok (.istore 8, 2)) (by decide) rfl) ?_
        obtain ⟨v7, hv7, h⟩ := vb_some h
        refine ai (e_iinc (pc := 48) (k := 7) hv7 ic_1 (by decide +kernel : decode k_R_changes.2.1 48 = .ok (.iinc 6 (1), 3)) rfl (by decide) rfl) ?_
        refine ai (r_iload (pc := 51) (k := 1) (by decide +kernel : decode k_R_changes.2.1 51 = .ok (.iload 8, 2)) rfl) ?_
        refine ai (r_iload_n (pc := 53) (k := 5) (by decide +kernel : decode k_R_changes.2.1 53 = .ok (.iload_n 3, 1)) rfl rfl) ?_
        refine ai (r_isub (pc := 54) (by decide +kernel : decode k_R_changes.2.1 54 = .ok (.isub, 1))) ?_
        refine ai (r_iload (pc := 55) (k := 6) (by decide +kernel : decode k_R_changes.2.1 55 = .ok (.iload 4, 2)) rfl) ?_
        rcases ite_some h with ⟨c8, h⟩ | ⟨c8, h⟩
        · refine ai (r_icmp_le_t (pc := 57) (tgt := 66) (by decide +kernel : decode k_R_changes.2.1 57 = .ok (.if_icmp .le (9), 3)) (by decide) c8) ?_
          exact (ai (r_sub [2, 3, 4, 5, 6, 7, 0, 8, 1] rfl) (R_changes_66_run (fun _ _ _ _ _ _ _ _ _ _ q1 q3 => ih q1 q3) hL h))
        · refine ai (r_icmp_le_f (pc := 57) 66 (by decide +kernel : decode k_R_changes.2.1 57 = .ok (.if_icmp .le (9), 3)) (by decide) c8) ?_
          refine ai (r_iload (pc := 60) (k := 1) (by decide +kernel : decode k_R_changes.2.1 60 = .ok (.iload 8, 2)) rfl) ?_
          refine ai (r_iload_n (pc := 62) (k := 5) (by decide +kernel : decode k_R_changes.2.1 62 = .ok (.iload_n 3, 1)) rfl rfl) ?_
          refine ai (r_isub (pc := 63) (by decide +kernel : decode k_R_changes.2.1 63 = .ok (.isub, 1))) ?_
          obtain ⟨v9, hv9, h⟩ := vb_some h
          refine ai (e_istore (pc := 64) hv9 (by decide +kernel : decode k_R_changes.2.1 64 = .ok (.istore 4, 2)) (by decide) rfl) ?_
          exact (ai (r_sub [3, 4, 5, 6, 0, 7, 1, 8, 2] rfl) (R_changes_66_run (fun _ _ _ _ _ _ _ _ _ _ q1 q3 => ih q1 q3) hL h))
      · refine ai (r_icmp_eq_f (pc := 28) 34 (by decide +kernel : decode k_R_changes.2.1 28 = .ok (.if_icmp .eq (6), 3)) (by decide) c3) ?_
        refine ai (r_goto (pc := 31) (tgt := 136) (by decide +kernel : decode k_R_changes.2.1 31 = .ok (.goto (105), 3)) (by decide)) ?_
        exact (R_changes_136_run (fun _ _ _ _ _ _ _ _ _ _ q1 q3 => ih q1 q3) hL h)
set_option maxRecDepth 100000 in
set_option maxHeartbeats 4000000 in
theorem R_changes_run {x1 : Int32} {x2 : Int32} {x3 : Int32} {m m' : Mem} {r : Int32} (hL : RL m) (h : R_changes x1 x2 x3 m = some (r, m')) : Run k_R_changes 0 [(0, .ref 0), (1, .int x1), (2, .int x2), (3, .int x3)] [] m (some (.int r)) m' ∧ RL m' := by
  unfold R_changes at h
  refine ai (r_iconst (pc := 0) (by decide +kernel : decode k_R_changes.2.1 0 = .ok (.iconst 0, 1)) ic_0) ?_
  refine ai (e_istore (pc := 1) rfl (by decide +kernel : decode k_R_changes.2.1 1 = .ok (.istore 4, 2)) (by decide) rfl) ?_
  refine ai (r_sipush (pc := 3) (by decide +kernel : decode k_R_changes.2.1 3 = .ok (.sipush (9999), 3)) (by decide : _ = (9999 : Int32))) ?_
  refine ai (e_istore (pc := 6) rfl (by decide +kernel : decode k_R_changes.2.1 6 = .ok (.istore 5, 2)) (by decide) rfl) ?_
  refine ai (r_iconst (pc := 8) (by decide +kernel : decode k_R_changes.2.1 8 = .ok (.iconst 0, 1)) ic_0) ?_
  refine ai (e_istore (pc := 9) rfl (by decide +kernel : decode k_R_changes.2.1 9 = .ok (.istore 6, 2)) (by decide) rfl) ?_
  refine ai (r_iconst (pc := 11) (by decide +kernel : decode k_R_changes.2.1 11 = .ok (.iconst 0, 1)) ic_0) ?_
  refine ai (e_istore (pc := 12) rfl (by decide +kernel : decode k_R_changes.2.1 12 = .ok (.istore 7, 2)) (by decide) rfl) ?_
  exact (ai (r_sub [4, 5, 6, 7, 3, 2, 1, 0] rfl) (R_changes_14_run hL h))
set_option maxRecDepth 100000 in
set_option maxHeartbeats 4000000 in
theorem R_nextParting_40_run {k4 : Int32 → Int32 → Mem → Option (Int32 × Mem)} {k13 : Int32 → Int32 → Int32 → Int32 → Mem → Option (Int32 × Mem)} {x1 : Int32} {x2 : Int32} {x3 : Int32} {x4 : Int32} {m m' : Mem} {r : Int32} (hk4 : ∀ (x1 : Int32) (x2 : Int32) (m : Mem) (r : Int32) (m' : Mem), RL m → k4 x1 x2 m = some (r, m') → Run k_R_nextParting 4 [(0, .ref 0), (1, .int x1), (2, .int x2)] [] m (some (.int r)) m' ∧ RL m') (hk13 : ∀ (x1 : Int32) (x2 : Int32) (x3 : Int32) (x4 : Int32) (m : Mem) (r : Int32) (m' : Mem), RL m → k13 x1 x2 x3 x4 m = some (r, m') → Run k_R_nextParting 13 [(0, .ref 0), (1, .int x1), (2, .int x2), (3, .int x3), (4, .int x4)] [] m (some (.int r)) m' ∧ RL m') (hL : RL m) (h : R_nextParting_40 k4 k13 x1 x2 x3 x4 m = some (r, m')) : Run k_R_nextParting 40 [(0, .ref 0), (1, .int x1), (2, .int x2), (3, .int x3), (4, .int x4)] [] m (some (.int r)) m' ∧ RL m' := by
  unfold R_nextParting_40 at h
  obtain ⟨v1, hv1, h⟩ := vb_some h
  refine ai (e_iinc (pc := 40) (k := 4) hv1 ic_1 (by decide +kernel : decode k_R_nextParting.2.1 40 = .ok (.iinc 4 (1), 3)) rfl (by decide) rfl) ?_
  refine ai (r_goto (pc := 43) (tgt := 13) (by decide +kernel : decode k_R_nextParting.2.1 43 = .ok (.goto (-30), 3)) (by decide)) ?_
  exact (ai (r_sub [1, 2, 3, 4, 0] rfl) (hk13 x1 x2 x3 v1 m _ _ hL h))
set_option maxRecDepth 100000 in
set_option maxHeartbeats 4000000 in
theorem R_nextParting_71_run {n : Nat} {x1 : Int32} {x4 : Int32} {m m' : Mem} {r : Int32} (hL : RL m) (h : R_nextParting_71 n x1 x4 m = some (r, m')) : Run k_R_nextParting 71 [(0, .ref 0), (1, .int x1), (4, .int x4)] [] m (some (.int r)) m' ∧ RL m' := by
  induction n generalizing x1 x4 m r m' with
  | zero => exact absurd h (by simp [R_nextParting_71])
  | succ n ih =>
    rw [R_nextParting_71.eq_2] at h
    refine ai (r_iload (pc := 71) (k := 2) (by decide +kernel : decode k_R_nextParting.2.1 71 = .ok (.iload 4, 2)) rfl) ?_
    refine ai (r_iload_n (pc := 73) (k := 1) (by decide +kernel : decode k_R_nextParting.2.1 73 = .ok (.iload_n 1, 1)) rfl rfl) ?_
    rcases ite_some h with ⟨c1, h⟩ | ⟨c1, h⟩
    · refine ai (r_icmp_ge_t (pc := 74) (tgt := 91) (by decide +kernel : decode k_R_nextParting.2.1 74 = .ok (.if_icmp .ge (17), 3)) (by decide) c1) ?_
      refine ai (r_iconst (pc := 91) (by decide +kernel : decode k_R_nextParting.2.1 91 = .ok (.iconst 1, 1)) ic_1) ?_
      cases h
      exact ⟨r_zret (by decide) rfl (by decide +kernel : decode k_R_nextParting.2.1 92 = .ok (.ireturn, 1)), hL⟩
    · refine ai (r_icmp_ge_f (pc := 74) 91 (by decide +kernel : decode k_R_nextParting.2.1 74 = .ok (.if_icmp .ge (17), 3)) (by decide) c1) ?_
      refine ai (p_aload_n (pc := 77) (k := 0) (by decide +kernel : decode k_R_nextParting.2.1 77 = .ok (.aload_n 0, 1)) rfl rfl) ?_
      refine ai (p_getr (pc := 78) (RR_1653_0 hL) (by decide +kernel : decode k_R_nextParting.2.1 78 = .ok (.getfield 260, 3)) lg_12_260 (RC_0 hL).1) ?_
      refine ai (r_iload (pc := 81) (k := 2) (by decide +kernel : decode k_R_nextParting.2.1 81 = .ok (.iload 4, 2)) rfl) ?_
      refine ai (r_iconst (pc := 83) (by decide +kernel : decode k_R_nextParting.2.1 83 = .ok (.iconst 0, 1)) ic_0) ?_
      obtain ⟨g2, h⟩ := gd_some h
      have c3 := (RC_78 hL).1
      have c4 := (RC_78 hL).2
      obtain ⟨m5, hm5, h⟩ := vb_some h
      have hL : RL m5 := by rw [hm5]; exact hL
      refine ai (p_iast (pc := 84) hm5 (by decide +kernel : decode k_R_nextParting.2.1 84 = .ok (.iastore, 1)) c3 c4 g2) ?_
      obtain ⟨v6, hv6, h⟩ := vb_some h
      refine ai (e_iinc (pc := 85) (k := 2) hv6 ic_1 (by decide +kernel : decode k_R_nextParting.2.1 85 = .ok (.iinc 4 (1), 3)) rfl (by decide) rfl) ?_
      refine ai (r_goto (pc := 88) (tgt := 71) (by decide +kernel : decode k_R_nextParting.2.1 88 = .ok (.goto (-17), 3)) (by decide)) ?_
      exact (ai (r_sub [1, 2, 0] rfl) (ih hL h))
set_option maxRecDepth 100000 in
set_option maxHeartbeats 4000000 in
theorem R_nextParting_56_run {x1 : Int32} {x2 : Int32} {m m' : Mem} {r : Int32} (hL : RL m) (h : R_nextParting_56 x1 x2 m = some (r, m')) : Run k_R_nextParting 56 [(0, .ref 0), (1, .int x1), (2, .int x2)] [] m (some (.int r)) m' ∧ RL m' := by
  unfold R_nextParting_56 at h
  refine ai (p_aload_n (pc := 56) (k := 0) (by decide +kernel : decode k_R_nextParting.2.1 56 = .ok (.aload_n 0, 1)) rfl rfl) ?_
  refine ai (p_getr (pc := 57) (RR_1653_0 hL) (by decide +kernel : decode k_R_nextParting.2.1 57 = .ok (.getfield 260, 3)) lg_12_260 (RC_0 hL).1) ?_
  refine ai (r_iload_n (pc := 60) (k := 2) (by decide +kernel : decode k_R_nextParting.2.1 60 = .ok (.iload_n 2, 1)) rfl rfl) ?_
  refine ai (r_dup2 (pc := 61) (by decide +kernel : decode k_R_nextParting.2.1 61 = .ok (.dup2, 1)) rfl rfl) ?_
  obtain ⟨g1, h⟩ := gd_some h
  refine ai (p_iald (pc := 62) (by decide +kernel : decode k_R_nextParting.2.1 62 = .ok (.iaload, 1)) (RC_78 hL).1 (RC_78 hL).2 g1) ?_
  refine ai (r_iconst (pc := 63) (by decide +kernel : decode k_R_nextParting.2.1 63 = .ok (.iconst 1, 1)) ic_1) ?_
  refine ai (r_iadd (pc := 64) (by decide +kernel : decode k_R_nextParting.2.1 64 = .ok (.iadd, 1))) ?_
  obtain ⟨g2, h⟩ := gd_some h
  have c3 := (RC_78 hL).1
  have c4 := (RC_78 hL).2
  obtain ⟨m5, hm5, h⟩ := vb_some h
  have hL : RL m5 := by rw [hm5]; exact hL
  refine ai (p_iast (pc := 65) hm5 (by decide +kernel : decode k_R_nextParting.2.1 65 = .ok (.iastore, 1)) c3 c4 g2) ?_
  refine ai (r_iload_n (pc := 66) (k := 2) (by decide +kernel : decode k_R_nextParting.2.1 66 = .ok (.iload_n 2, 1)) rfl rfl) ?_
  refine ai (r_iconst (pc := 67) (by decide +kernel : decode k_R_nextParting.2.1 67 = .ok (.iconst 1, 1)) ic_1) ?_
  refine ai (r_iadd (pc := 68) (by decide +kernel : decode k_R_nextParting.2.1 68 = .ok (.iadd, 1))) ?_
  obtain ⟨v6, hv6, h⟩ := vb_some h
  refine ai (e_istore (pc := 69) hv6 (by decide +kernel : decode k_R_nextParting.2.1 69 = .ok (.istore 4, 2)) (by decide) rfl) ?_
  exact (ai (r_sub [1, 2, 0] rfl) (R_nextParting_71_run hL h))
set_option maxRecDepth 100000 in
set_option maxHeartbeats 4000000 in
theorem R_nextParting_46_run {k4 : Int32 → Int32 → Mem → Option (Int32 × Mem)} {x1 : Int32} {x2 : Int32} {x3 : Int32} {m m' : Mem} {r : Int32} (hk4 : ∀ (x1 : Int32) (x2 : Int32) (m : Mem) (r : Int32) (m' : Mem), RL m → k4 x1 x2 m = some (r, m') → Run k_R_nextParting 4 [(0, .ref 0), (1, .int x1), (2, .int x2)] [] m (some (.int r)) m' ∧ RL m') (hL : RL m) (h : R_nextParting_46 k4 x1 x2 x3 m = some (r, m')) : Run k_R_nextParting 46 [(0, .ref 0), (1, .int x1), (2, .int x2), (3, .int x3)] [] m (some (.int r)) m' ∧ RL m' := by
  unfold R_nextParting_46 at h
  refine ai (p_aload_n (pc := 46) (k := 0) (by decide +kernel : decode k_R_nextParting.2.1 46 = .ok (.aload_n 0, 1)) rfl rfl) ?_
  refine ai (p_getr (pc := 47) (RR_1653_0 hL) (by decide +kernel : decode k_R_nextParting.2.1 47 = .ok (.getfield 260, 3)) lg_12_260 (RC_0 hL).1) ?_
  refine ai (r_iload_n (pc := 50) (k := 2) (by decide +kernel : decode k_R_nextParting.2.1 50 = .ok (.iload_n 2, 1)) rfl rfl) ?_
  obtain ⟨g1, h⟩ := gd_some h
  refine ai (p_iald (pc := 51) (by decide +kernel : decode k_R_nextParting.2.1 51 = .ok (.iaload, 1)) (RC_78 hL).1 (RC_78 hL).2 g1) ?_
  refine ai (r_iload_n (pc := 52) (k := 3) (by decide +kernel : decode k_R_nextParting.2.1 52 = .ok (.iload_n 3, 1)) rfl rfl) ?_
  rcases ite_some h with ⟨c2, h⟩ | ⟨c2, h⟩
  · refine ai (r_icmp_ge_t (pc := 53) (tgt := 93) (by decide +kernel : decode k_R_nextParting.2.1 53 = .ok (.if_icmp .ge (40), 3)) (by decide) c2) ?_
    obtain ⟨v3, hv3, h⟩ := vb_some h
    refine ai (e_iinc (pc := 93) (k := 2) hv3 ic_m1 (by decide +kernel : decode k_R_nextParting.2.1 93 = .ok (.iinc 2 (-1), 3)) rfl (by decide) rfl) ?_
    refine ai (r_goto (pc := 96) (tgt := 4) (by decide +kernel : decode k_R_nextParting.2.1 96 = .ok (.goto (-92), 3)) (by decide)) ?_
    exact (ai (r_sub [1, 2, 0] rfl) (hk4 x1 v3 m _ _ hL h))
  · refine ai (r_icmp_ge_f (pc := 53) 93 (by decide +kernel : decode k_R_nextParting.2.1 53 = .ok (.if_icmp .ge (40), 3)) (by decide) c2) ?_
    exact (ai (r_sub [0, 1, 2] rfl) (R_nextParting_56_run hL h))
set_option maxRecDepth 100000 in
set_option maxHeartbeats 4000000 in
theorem R_nextParting_13_run {k4 : Int32 → Int32 → Mem → Option (Int32 × Mem)} {n : Nat} {x1 : Int32} {x2 : Int32} {x3 : Int32} {x4 : Int32} {m m' : Mem} {r : Int32} (hk4 : ∀ (x1 : Int32) (x2 : Int32) (m : Mem) (r : Int32) (m' : Mem), RL m → k4 x1 x2 m = some (r, m') → Run k_R_nextParting 4 [(0, .ref 0), (1, .int x1), (2, .int x2)] [] m (some (.int r)) m' ∧ RL m') (hL : RL m) (h : R_nextParting_13 k4 n x1 x2 x3 x4 m = some (r, m')) : Run k_R_nextParting 13 [(0, .ref 0), (1, .int x1), (2, .int x2), (3, .int x3), (4, .int x4)] [] m (some (.int r)) m' ∧ RL m' := by
  induction n generalizing x1 x2 x3 x4 m r m' with
  | zero => exact absurd h (by simp [R_nextParting_13])
  | succ n ih =>
    rw [R_nextParting_13.eq_2] at h
    refine ai (r_iload (pc := 13) (k := 4) (by decide +kernel : decode k_R_nextParting.2.1 13 = .ok (.iload 4, 2)) rfl) ?_
    refine ai (r_iload_n (pc := 15) (k := 2) (by decide +kernel : decode k_R_nextParting.2.1 15 = .ok (.iload_n 2, 1)) rfl rfl) ?_
    rcases ite_some h with ⟨c1, h⟩ | ⟨c1, h⟩
    · refine ai (r_icmp_ge_t (pc := 16) (tgt := 46) (by decide +kernel : decode k_R_nextParting.2.1 16 = .ok (.if_icmp .ge (30), 3)) (by decide) c1) ?_
      exact (ai (r_sub [0, 1, 2, 3] rfl) (R_nextParting_46_run hk4 hL h))
    · refine ai (r_icmp_ge_f (pc := 16) 46 (by decide +kernel : decode k_R_nextParting.2.1 16 = .ok (.if_icmp .ge (30), 3)) (by decide) c1) ?_
      refine ai (p_aload_n (pc := 19) (k := 0) (by decide +kernel : decode k_R_nextParting.2.1 19 = .ok (.aload_n 0, 1)) rfl rfl) ?_
      refine ai (p_getr (pc := 20) (RR_1653_0 hL) (by decide +kernel : decode k_R_nextParting.2.1 20 = .ok (.getfield 260, 3)) lg_12_260 (RC_0 hL).1) ?_
      refine ai (r_iload (pc := 23) (k := 4) (by decide +kernel : decode k_R_nextParting.2.1 23 = .ok (.iload 4, 2)) rfl) ?_
      obtain ⟨g2, h⟩ := gd_some h
      refine ai (p_iald (pc := 25) (by decide +kernel : decode k_R_nextParting.2.1 25 = .ok (.iaload, 1)) (RC_78 hL).1 (RC_78 hL).2 g2) ?_
      refine ai (r_iload_n (pc := 26) (k := 3) (by decide +kernel : decode k_R_nextParting.2.1 26 = .ok (.iload_n 3, 1)) rfl rfl) ?_
      rcases ite_some h with ⟨c3, h⟩ | ⟨c3, h⟩
      · refine ai (r_icmp_lt_t (pc := 27) (tgt := 40) (by decide +kernel : decode k_R_nextParting.2.1 27 = .ok (.if_icmp .lt (13), 3)) (by decide) c3) ?_
        exact (R_nextParting_40_run hk4 (fun _ _ _ _ _ _ _ q1 q3 => ih q1 q3) hL h)
      · refine ai (r_icmp_lt_f (pc := 27) 40 (by decide +kernel : decode k_R_nextParting.2.1 27 = .ok (.if_icmp .lt (13), 3)) (by decide) c3) ?_
        refine ai (p_aload_n (pc := 30) (k := 0) (by decide +kernel : decode k_R_nextParting.2.1 30 = .ok (.aload_n 0, 1)) rfl rfl) ?_
        refine ai (p_getr (pc := 31) (RR_1653_0 hL) (by decide +kernel : decode k_R_nextParting.2.1 31 = .ok (.getfield 260, 3)) lg_12_260 (RC_0 hL).1) ?_
        refine ai (r_iload (pc := 34) (k := 4) (by decide +kernel : decode k_R_nextParting.2.1 34 = .ok (.iload 4, 2)) rfl) ?_
        obtain ⟨g4, h⟩ := gd_some h
        refine ai (p_iald (pc := 36) (by decide +kernel : decode k_R_nextParting.2.1 36 = .ok (.iaload, 1)) (RC_78 hL).1 (RC_78 hL).2 g4) ?_
        refine ai (r_iconst (pc := 37) (by decide +kernel : decode k_R_nextParting.2.1 37 = .ok (.iconst 1, 1)) ic_1) ?_
        refine ai (r_iadd (pc := 38) (by decide +kernel : decode k_R_nextParting.2.1 38 = .ok (.iadd, 1))) ?_
        obtain ⟨v5, hv5, h⟩ := vb_some h
        refine ai (e_istore_n (pc := 39) hv5 (by decide +kernel : decode k_R_nextParting.2.1 39 = .ok (.istore_n 3, 1)) rfl (by decide) rfl) ?_
        exact (ai (r_sub [1, 2, 3, 0, 4] rfl) (R_nextParting_40_run hk4 (fun _ _ _ _ _ _ _ q1 q3 => ih q1 q3) hL h))
set_option maxRecDepth 100000 in
set_option maxHeartbeats 4000000 in
theorem R_nextParting_4_run {n : Nat} {x1 : Int32} {x2 : Int32} {m m' : Mem} {r : Int32} (hL : RL m) (h : R_nextParting_4 n x1 x2 m = some (r, m')) : Run k_R_nextParting 4 [(0, .ref 0), (1, .int x1), (2, .int x2)] [] m (some (.int r)) m' ∧ RL m' := by
  induction n generalizing x1 x2 m r m' with
  | zero => exact absurd h (by simp [R_nextParting_4])
  | succ n ih =>
    rw [R_nextParting_4.eq_2] at h
    refine ai (r_iload_n (pc := 4) (k := 2) (by decide +kernel : decode k_R_nextParting.2.1 4 = .ok (.iload_n 2, 1)) rfl rfl) ?_
    rcases ite_some h with ⟨c1, h⟩ | ⟨c1, h⟩
    · refine ai (r_if_le_t (pc := 5) (tgt := 99) (by decide +kernel : decode k_R_nextParting.2.1 5 = .ok (.ifCond .le (94), 3)) (by decide) c1) ?_
      refine ai (r_iconst (pc := 99) (by decide +kernel : decode k_R_nextParting.2.1 99 = .ok (.iconst 0, 1)) ic_0) ?_
      cases h
      exact ⟨r_zret (by decide) rfl (by decide +kernel : decode k_R_nextParting.2.1 100 = .ok (.ireturn, 1)), hL⟩
    · refine ai (r_if_le_f (pc := 5) 99 (by decide +kernel : decode k_R_nextParting.2.1 5 = .ok (.ifCond .le (94), 3)) (by decide) c1) ?_
      refine ai (r_iconst (pc := 8) (by decide +kernel : decode k_R_nextParting.2.1 8 = .ok (.iconst 0, 1)) ic_0) ?_
      refine ai (e_istore_n (pc := 9) rfl (by decide +kernel : decode k_R_nextParting.2.1 9 = .ok (.istore_n 3, 1)) rfl (by decide) rfl) ?_
      refine ai (r_iconst (pc := 10) (by decide +kernel : decode k_R_nextParting.2.1 10 = .ok (.iconst 0, 1)) ic_0) ?_
      refine ai (e_istore (pc := 11) rfl (by decide +kernel : decode k_R_nextParting.2.1 11 = .ok (.istore 4, 2)) (by decide) rfl) ?_
      exact (ai (r_sub [2, 3, 4, 1, 0] rfl) (R_nextParting_13_run (fun _ _ _ _ _ q1 q3 => ih q1 q3) hL h))
set_option maxRecDepth 100000 in
set_option maxHeartbeats 4000000 in
theorem R_nextParting_run {x1 : Int32} {m m' : Mem} {r : Int32} (hL : RL m) (h : R_nextParting x1 m = some (r, m')) : Run k_R_nextParting 0 [(0, .ref 0), (1, .int x1)] [] m (some (.int r)) m' ∧ RL m' := by
  unfold R_nextParting at h
  refine ai (r_iload_n (pc := 0) (k := 1) (by decide +kernel : decode k_R_nextParting.2.1 0 = .ok (.iload_n 1, 1)) rfl rfl) ?_
  refine ai (r_iconst (pc := 1) (by decide +kernel : decode k_R_nextParting.2.1 1 = .ok (.iconst 1, 1)) ic_1) ?_
  refine ai (r_isub (pc := 2) (by decide +kernel : decode k_R_nextParting.2.1 2 = .ok (.isub, 1))) ?_
  obtain ⟨v1, hv1, h⟩ := vb_some h
  refine ai (e_istore_n (pc := 3) hv1 (by decide +kernel : decode k_R_nextParting.2.1 3 = .ok (.istore_n 2, 1)) rfl (by decide) rfl) ?_
  exact (ai (r_sub [1, 2, 0] rfl) (R_nextParting_4_run hL h))
set_option maxRecDepth 100000 in
set_option maxHeartbeats 4000000 in
theorem R_parting_80_run {k49 : Int32 → Int32 → Int32 → Int32 → Int32 → Mem → Option (Int32 × Mem)} {x1 : Int32} {x2 : Int32} {x3 : Int32} {x4 : Int32} {x5 : Int32} {m m' : Mem} {r : Int32} (hk49 : ∀ (x1 : Int32) (x2 : Int32) (x3 : Int32) (x4 : Int32) (x5 : Int32) (m : Mem) (r : Int32) (m' : Mem), RL m → k49 x1 x2 x3 x4 x5 m = some (r, m') → Run k_R_parting 49 [(0, .ref 0), (1, .int x1), (2, .int x2), (3, .int x3), (4, .int x4), (5, .int x5)] [] m (some (.int r)) m' ∧ RL m') (hL : RL m) (h : R_parting_80 k49 x1 x2 x3 x4 x5 m = some (r, m')) : Run k_R_parting 80 [(0, .ref 0), (1, .int x1), (2, .int x2), (3, .int x3), (4, .int x4), (5, .int x5)] [] m (some (.int r)) m' ∧ RL m' := by
  unfold R_parting_80 at h
  obtain ⟨v1, hv1, h⟩ := vb_some h
  refine ai (e_iinc (pc := 80) (k := 5) hv1 ic_1 (by decide +kernel : decode k_R_parting.2.1 80 = .ok (.iinc 5 (1), 3)) rfl (by decide) rfl) ?_
  refine ai (r_goto (pc := 83) (tgt := 49) (by decide +kernel : decode k_R_parting.2.1 83 = .ok (.goto (-34), 3)) (by decide)) ?_
  exact (ai (r_sub [1, 2, 3, 4, 5, 0] rfl) (hk49 x1 x2 x3 x4 v1 m _ _ hL h))
set_option maxRecDepth 100000 in
set_option maxHeartbeats 4000000 in
theorem R_parting_160_run {k119 : Int32 → Int32 → Int32 → Int32 → Int32 → Int32 → Mem → Option (Int32 × Mem)} {k130 : Int32 → Int32 → Int32 → Int32 → Int32 → Int32 → Int32 → Mem → Option (Int32 × Mem)} {x2 : Int32} {x3 : Int32} {x4 : Int32} {x5 : Int32} {x6 : Int32} {x8 : Int32} {x9 : Int32} {m m' : Mem} {r : Int32} (hk119 : ∀ (x2 : Int32) (x3 : Int32) (x4 : Int32) (x5 : Int32) (x6 : Int32) (x7 : Int32) (m : Mem) (r : Int32) (m' : Mem), RL m → k119 x2 x3 x4 x5 x6 x7 m = some (r, m') → Run k_R_parting 119 [(0, .ref 0), (2, .int x2), (3, .int x3), (4, .int x4), (5, .int x5), (6, .int x6), (7, .int x7)] [] m (some (.int r)) m' ∧ RL m') (hk130 : ∀ (x2 : Int32) (x3 : Int32) (x4 : Int32) (x5 : Int32) (x6 : Int32) (x8 : Int32) (x9 : Int32) (m : Mem) (r : Int32) (m' : Mem), RL m → k130 x2 x3 x4 x5 x6 x8 x9 m = some (r, m') → Run k_R_parting 130 [(0, .ref 0), (2, .int x2), (3, .int x3), (4, .int x4), (5, .int x5), (6, .int x6), (8, .int x8), (9, .int x9)] [] m (some (.int r)) m' ∧ RL m') (hL : RL m) (h : R_parting_160 k119 k130 x2 x3 x4 x5 x6 x8 x9 m = some (r, m')) : Run k_R_parting 160 [(0, .ref 0), (2, .int x2), (3, .int x3), (4, .int x4), (5, .int x5), (6, .int x6), (8, .int x8), (9, .int x9)] [] m (some (.int r)) m' ∧ RL m' := by
  unfold R_parting_160 at h
  obtain ⟨v1, hv1, h⟩ := vb_some h
  refine ai (e_iinc (pc := 160) (k := 7) hv1 ic_1 (by decide +kernel : decode k_R_parting.2.1 160 = .ok (.iinc 9 (1), 3)) rfl (by decide) rfl) ?_
  refine ai (r_goto (pc := 163) (tgt := 130) (by decide +kernel : decode k_R_parting.2.1 163 = .ok (.goto (-33), 3)) (by decide)) ?_
  exact (ai (r_sub [1, 2, 3, 4, 5, 6, 7, 0] rfl) (hk130 x2 x3 x4 x5 x6 x8 v1 m _ _ hL h))
set_option maxRecDepth 100000 in
set_option maxHeartbeats 4000000 in
theorem R_parting_221_run {k119 : Int32 → Int32 → Int32 → Int32 → Int32 → Int32 → Mem → Option (Int32 × Mem)} {k182 : Int32 → Int32 → Int32 → Int32 → Int32 → Int32 → Int32 → Int32 → Mem → Option (Int32 × Mem)} {x2 : Int32} {x3 : Int32} {x4 : Int32} {x5 : Int32} {x6 : Int32} {x8 : Int32} {x10 : Int32} {s0 : Int32} {m m' : Mem} {r : Int32} (hk119 : ∀ (x2 : Int32) (x3 : Int32) (x4 : Int32) (x5 : Int32) (x6 : Int32) (x7 : Int32) (m : Mem) (r : Int32) (m' : Mem), RL m → k119 x2 x3 x4 x5 x6 x7 m = some (r, m') → Run k_R_parting 119 [(0, .ref 0), (2, .int x2), (3, .int x3), (4, .int x4), (5, .int x5), (6, .int x6), (7, .int x7)] [] m (some (.int r)) m' ∧ RL m') (hk182 : ∀ (x2 : Int32) (x3 : Int32) (x4 : Int32) (x5 : Int32) (x6 : Int32) (x8 : Int32) (x9 : Int32) (x10 : Int32) (m : Mem) (r : Int32) (m' : Mem), RL m → k182 x2 x3 x4 x5 x6 x8 x9 x10 m = some (r, m') → Run k_R_parting 182 [(0, .ref 0), (2, .int x2), (3, .int x3), (4, .int x4), (5, .int x5), (6, .int x6), (8, .int x8), (9, .int x9), (10, .int x10)] [] m (some (.int r)) m' ∧ RL m') (hL : RL m) (h : R_parting_221 k119 k182 x2 x3 x4 x5 x6 x8 x10 s0 m = some (r, m')) : Run k_R_parting 221 [(0, .ref 0), (2, .int x2), (3, .int x3), (4, .int x4), (5, .int x5), (6, .int x6), (8, .int x8), (10, .int x10)] [.int s0] m (some (.int r)) m' ∧ RL m' := by
  unfold R_parting_221 at h
  refine ai (e_istore (pc := 221) rfl (by decide +kernel : decode k_R_parting.2.1 221 = .ok (.istore 9, 2)) (by decide) rfl) ?_
  obtain ⟨v1, hv1, h⟩ := vb_some h
  refine ai (e_iinc (pc := 223) (k := 8) hv1 ic_1 (by decide +kernel : decode k_R_parting.2.1 223 = .ok (.iinc 10 (1), 3)) rfl (by decide) rfl) ?_
  refine ai (r_goto (pc := 226) (tgt := 182) (by decide +kernel : decode k_R_parting.2.1 226 = .ok (.goto (-44), 3)) (by decide)) ?_
  exact (ai (r_sub [2, 3, 4, 5, 6, 7, 8, 1, 0] rfl) (hk182 x2 x3 x4 x5 x6 x8 s0 v1 m _ _ hL h))
set_option maxRecDepth 100000 in
set_option maxHeartbeats 4000000 in
theorem R_parting_319_run {k119 : Int32 → Int32 → Int32 → Int32 → Int32 → Int32 → Mem → Option (Int32 × Mem)} {x2 : Int32} {x3 : Int32} {x4 : Int32} {x5 : Int32} {x6 : Int32} {m m' : Mem} {r : Int32} (hk119 : ∀ (x2 : Int32) (x3 : Int32) (x4 : Int32) (x5 : Int32) (x6 : Int32) (x7 : Int32) (m : Mem) (r : Int32) (m' : Mem), RL m → k119 x2 x3 x4 x5 x6 x7 m = some (r, m') → Run k_R_parting 119 [(0, .ref 0), (2, .int x2), (3, .int x3), (4, .int x4), (5, .int x5), (6, .int x6), (7, .int x7)] [] m (some (.int r)) m' ∧ RL m') (hL : RL m) (h : R_parting_319 k119 x2 x3 x4 x5 x6 m = some (r, m')) : Run k_R_parting 319 [(0, .ref 0), (2, .int x2), (3, .int x3), (4, .int x4), (5, .int x5), (6, .int x6)] [] m (some (.int r)) m' ∧ RL m' := by
  unfold R_parting_319 at h
  refine ai (p_aload_n (pc := 319) (k := 0) (by decide +kernel : decode k_R_parting.2.1 319 = .ok (.aload_n 0, 1)) rfl rfl) ?_
  refine ai (r_iload (pc := 320) (k := 3) (by decide +kernel : decode k_R_parting.2.1 320 = .ok (.iload 4, 2)) rfl) ?_
  obtain ⟨r1, m2, hr1, h⟩ := bn_some h
  have q3 := R_nextParting_run hL hr1
  have c4 := (RC_0 hL).1
  have hL := q3.2
  refine ai (q_callV (pc := 322) (As := [.int x4]) (st := []) (st2 := [.int r1]) (b := 0) rfl rfl (by decide +kernel : decode k_R_parting.2.1 322 = .ok (.invokevirtual 638, 3)) lc_12_638 mo_R_nextParting ⟨Nat.le_of_ble_eq_true rfl, Nat.le_of_ble_eq_true rfl⟩ (Nat.le_of_ble_eq_true rfl) (Nat.le_of_ble_eq_true rfl) c4 q3.1) ?_
  refine ai (e_istore (pc := 325) rfl (by decide +kernel : decode k_R_parting.2.1 325 = .ok (.istore 7, 2)) (by decide) rfl) ?_
  refine ai (r_goto (pc := 327) (tgt := 119) (by decide +kernel : decode k_R_parting.2.1 327 = .ok (.goto (-208), 3)) (by decide)) ?_
  exact (ai (r_sub [1, 2, 3, 4, 5, 6, 0] rfl) (hk119 x2 x3 x4 x5 x6 r1 m2 _ _ hL h))
set_option maxRecDepth 100000 in
set_option maxHeartbeats 4000000 in
theorem R_parting_273_run {k119 : Int32 → Int32 → Int32 → Int32 → Int32 → Int32 → Mem → Option (Int32 × Mem)} {n : Nat} {x2 : Int32} {x3 : Int32} {x4 : Int32} {x5 : Int32} {x6 : Int32} {x10 : Int32} {m m' : Mem} {r : Int32} (hk119 : ∀ (x2 : Int32) (x3 : Int32) (x4 : Int32) (x5 : Int32) (x6 : Int32) (x7 : Int32) (m : Mem) (r : Int32) (m' : Mem), RL m → k119 x2 x3 x4 x5 x6 x7 m = some (r, m') → Run k_R_parting 119 [(0, .ref 0), (2, .int x2), (3, .int x3), (4, .int x4), (5, .int x5), (6, .int x6), (7, .int x7)] [] m (some (.int r)) m' ∧ RL m') (hL : RL m) (h : R_parting_273 k119 n x2 x3 x4 x5 x6 x10 m = some (r, m')) : Run k_R_parting 273 [(0, .ref 0), (2, .int x2), (3, .int x3), (4, .int x4), (5, .int x5), (6, .int x6), (10, .int x10)] [] m (some (.int r)) m' ∧ RL m' := by
  induction n generalizing x2 x3 x4 x5 x6 x10 m r m' with
  | zero => exact absurd h (by simp [R_parting_273])
  | succ n ih =>
    rw [R_parting_273.eq_2] at h
    refine ai (r_iload (pc := 273) (k := 6) (by decide +kernel : decode k_R_parting.2.1 273 = .ok (.iload 10, 2)) rfl) ?_
    refine ai (r_iload (pc := 275) (k := 3) (by decide +kernel : decode k_R_parting.2.1 275 = .ok (.iload 4, 2)) rfl) ?_
    rcases ite_some h with ⟨c1, h⟩ | ⟨c1, h⟩
    · refine ai (r_icmp_ge_t (pc := 277) (tgt := 319) (by decide +kernel : decode k_R_parting.2.1 277 = .ok (.if_icmp .ge (42), 3)) (by decide) c1) ?_
      exact (ai (r_sub [0, 1, 2, 3, 4, 5] rfl) (R_parting_319_run hk119 hL h))
    · refine ai (r_icmp_ge_f (pc := 277) 319 (by decide +kernel : decode k_R_parting.2.1 277 = .ok (.if_icmp .ge (42), 3)) (by decide) c1) ?_
      refine ai (p_aload_n (pc := 280) (k := 0) (by decide +kernel : decode k_R_parting.2.1 280 = .ok (.aload_n 0, 1)) rfl rfl) ?_
      refine ai (p_getr (pc := 281) (RR_1655_0 hL) (by decide +kernel : decode k_R_parting.2.1 281 = .ok (.getfield 266, 3)) lg_12_266 (RC_0 hL).1) ?_
      refine ai (r_iload (pc := 284) (k := 6) (by decide +kernel : decode k_R_parting.2.1 284 = .ok (.iload 10, 2)) rfl) ?_
      refine ai (p_aload_n (pc := 286) (k := 0) (by decide +kernel : decode k_R_parting.2.1 286 = .ok (.aload_n 0, 1)) rfl rfl) ?_
      refine ai (p_getr (pc := 287) (RR_1653_0 hL) (by decide +kernel : decode k_R_parting.2.1 287 = .ok (.getfield 260, 3)) lg_12_260 (RC_0 hL).1) ?_
      refine ai (r_iload (pc := 290) (k := 6) (by decide +kernel : decode k_R_parting.2.1 290 = .ok (.iload 10, 2)) rfl) ?_
      obtain ⟨g2, h⟩ := gd_some h
      refine ai (p_iald (pc := 292) (by decide +kernel : decode k_R_parting.2.1 292 = .ok (.iaload, 1)) (RC_78 hL).1 (RC_78 hL).2 g2) ?_
      obtain ⟨g3, h⟩ := gd_some h
      have c4 := (RC_80 hL).1
      have c5 := (RC_80 hL).2
      obtain ⟨m6, hm6, h⟩ := vb_some h
      have hL : RL m6 := by rw [hm6]; exact hL
      refine ai (p_iast (pc := 293) hm6 (by decide +kernel : decode k_R_parting.2.1 293 = .ok (.iastore, 1)) c4 c5 g3) ?_
      refine ai (p_aload_n (pc := 294) (k := 0) (by decide +kernel : decode k_R_parting.2.1 294 = .ok (.aload_n 0, 1)) rfl rfl) ?_
      refine ai (p_getr (pc := 295) (RR_1656_0 hL) (by decide +kernel : decode k_R_parting.2.1 295 = .ok (.getfield 269, 3)) lg_12_269 (RC_0 hL).1) ?_
      refine ai (r_iload (pc := 298) (k := 6) (by decide +kernel : decode k_R_parting.2.1 298 = .ok (.iload 10, 2)) rfl) ?_
      refine ai (p_aload_n (pc := 300) (k := 0) (by decide +kernel : decode k_R_parting.2.1 300 = .ok (.aload_n 0, 1)) rfl rfl) ?_
      refine ai (p_getr (pc := 301) (RR_1654_0 hL) (by decide +kernel : decode k_R_parting.2.1 301 = .ok (.getfield 263, 3)) lg_12_263 (RC_0 hL).1) ?_
      refine ai (p_aload_n (pc := 304) (k := 0) (by decide +kernel : decode k_R_parting.2.1 304 = .ok (.aload_n 0, 1)) rfl rfl) ?_
      refine ai (p_getr (pc := 305) (RR_1653_0 hL) (by decide +kernel : decode k_R_parting.2.1 305 = .ok (.getfield 260, 3)) lg_12_260 (RC_0 hL).1) ?_
      refine ai (r_iload (pc := 308) (k := 6) (by decide +kernel : decode k_R_parting.2.1 308 = .ok (.iload 10, 2)) rfl) ?_
      obtain ⟨g7, h⟩ := gd_some h
      refine ai (p_iald (pc := 310) (by decide +kernel : decode k_R_parting.2.1 310 = .ok (.iaload, 1)) (RC_78 hL).1 (RC_78 hL).2 g7) ?_
      obtain ⟨g8, h⟩ := gd_some h
      refine ai (p_iald (pc := 311) (by decide +kernel : decode k_R_parting.2.1 311 = .ok (.iaload, 1)) (RC_79 hL).1 (RC_79 hL).2 g8) ?_
      obtain ⟨g9, h⟩ := gd_some h
      have c10 := (RC_81 hL).1
      have c11 := (RC_81 hL).2
      obtain ⟨m12, hm12, h⟩ := vb_some h
      have hL : RL m12 := by rw [hm12]; exact hL
      refine ai (p_iast (pc := 312) hm12 (by decide +kernel : decode k_R_parting.2.1 312 = .ok (.iastore, 1)) c10 c11 g9) ?_
      obtain ⟨v13, hv13, h⟩ := vb_some h
      refine ai (e_iinc (pc := 313) (k := 6) hv13 ic_1 (by decide +kernel : decode k_R_parting.2.1 313 = .ok (.iinc 10 (1), 3)) rfl (by decide) rfl) ?_
      refine ai (r_goto (pc := 316) (tgt := 273) (by decide +kernel : decode k_R_parting.2.1 316 = .ok (.goto (-43), 3)) (by decide)) ?_
      exact (ai (r_sub [1, 2, 3, 4, 5, 6, 0] rfl) (ih hL h))
set_option maxRecDepth 100000 in
set_option maxHeartbeats 4000000 in
theorem R_parting_262_run {k119 : Int32 → Int32 → Int32 → Int32 → Int32 → Int32 → Mem → Option (Int32 × Mem)} {x2 : Int32} {x3 : Int32} {x4 : Int32} {x8 : Int32} {x9 : Int32} {m m' : Mem} {r : Int32} (hk119 : ∀ (x2 : Int32) (x3 : Int32) (x4 : Int32) (x5 : Int32) (x6 : Int32) (x7 : Int32) (m : Mem) (r : Int32) (m' : Mem), RL m → k119 x2 x3 x4 x5 x6 x7 m = some (r, m') → Run k_R_parting 119 [(0, .ref 0), (2, .int x2), (3, .int x3), (4, .int x4), (5, .int x5), (6, .int x6), (7, .int x7)] [] m (some (.int r)) m' ∧ RL m') (hL : RL m) (h : R_parting_262 k119 x2 x3 x4 x8 x9 m = some (r, m')) : Run k_R_parting 262 [(0, .ref 0), (2, .int x2), (3, .int x3), (4, .int x4), (8, .int x8), (9, .int x9)] [] m (some (.int r)) m' ∧ RL m' := by
  unfold R_parting_262 at h
  refine ai (r_iload (pc := 262) (k := 5) (by decide +kernel : decode k_R_parting.2.1 262 = .ok (.iload 9, 2)) rfl) ?_
  refine ai (e_istore (pc := 264) rfl (by decide +kernel : decode k_R_parting.2.1 264 = .ok (.istore 5, 2)) (by decide) rfl) ?_
  refine ai (r_iload (pc := 266) (k := 5) (by decide +kernel : decode k_R_parting.2.1 266 = .ok (.iload 8, 2)) rfl) ?_
  refine ai (e_istore (pc := 268) rfl (by decide +kernel : decode k_R_parting.2.1 268 = .ok (.istore 6, 2)) (by decide) rfl) ?_
  refine ai (r_iconst (pc := 270) (by decide +kernel : decode k_R_parting.2.1 270 = .ok (.iconst 0, 1)) ic_0) ?_
  refine ai (e_istore (pc := 271) rfl (by decide +kernel : decode k_R_parting.2.1 271 = .ok (.istore 10, 2)) (by decide) rfl) ?_
  exact (ai (r_sub [3, 4, 5, 6, 2, 1, 0] rfl) (R_parting_273_run hk119 hL h))
set_option maxRecDepth 100000 in
set_option maxHeartbeats 4000000 in
theorem R_parting_229_run {k119 : Int32 → Int32 → Int32 → Int32 → Int32 → Int32 → Mem → Option (Int32 × Mem)} {x2 : Int32} {x3 : Int32} {x4 : Int32} {x5 : Int32} {x6 : Int32} {x8 : Int32} {x9 : Int32} {m m' : Mem} {r : Int32} (hk119 : ∀ (x2 : Int32) (x3 : Int32) (x4 : Int32) (x5 : Int32) (x6 : Int32) (x7 : Int32) (m : Mem) (r : Int32) (m' : Mem), RL m → k119 x2 x3 x4 x5 x6 x7 m = some (r, m') → Run k_R_parting 119 [(0, .ref 0), (2, .int x2), (3, .int x3), (4, .int x4), (5, .int x5), (6, .int x6), (7, .int x7)] [] m (some (.int r)) m' ∧ RL m') (hL : RL m) (h : R_parting_229 k119 x2 x3 x4 x5 x6 x8 x9 m = some (r, m')) : Run k_R_parting 229 [(0, .ref 0), (2, .int x2), (3, .int x3), (4, .int x4), (5, .int x5), (6, .int x6), (8, .int x8), (9, .int x9)] [] m (some (.int r)) m' ∧ RL m' := by
  unfold R_parting_229 at h
  refine ai (r_iload (pc := 229) (k := 7) (by decide +kernel : decode k_R_parting.2.1 229 = .ok (.iload 9, 2)) rfl) ?_
  refine ai (r_iconst (pc := 231) (by decide +kernel : decode k_R_parting.2.1 231 = .ok (.iconst (-1), 1)) ic_m1) ?_
  rcases ite_some h with ⟨c1, h⟩ | ⟨c1, h⟩
  · refine ai (r_icmp_eq_t (pc := 232) (tgt := 319) (by decide +kernel : decode k_R_parting.2.1 232 = .ok (.if_icmp .eq (87), 3)) (by decide) c1) ?_
    exact (ai (r_sub [0, 1, 2, 3, 4, 5] rfl) (R_parting_319_run hk119 hL h))
  · refine ai (r_icmp_eq_f (pc := 232) 319 (by decide +kernel : decode k_R_parting.2.1 232 = .ok (.if_icmp .eq (87), 3)) (by decide) c1) ?_
    refine ai (r_iload (pc := 235) (k := 4) (by decide +kernel : decode k_R_parting.2.1 235 = .ok (.iload 5, 2)) rfl) ?_
    refine ai (r_iconst (pc := 237) (by decide +kernel : decode k_R_parting.2.1 237 = .ok (.iconst (-1), 1)) ic_m1) ?_
    rcases ite_some h with ⟨c2, h⟩ | ⟨c2, h⟩
    · refine ai (r_icmp_eq_t (pc := 238) (tgt := 262) (by decide +kernel : decode k_R_parting.2.1 238 = .ok (.if_icmp .eq (24), 3)) (by decide) c2) ?_
      exact (ai (r_sub [0, 1, 2, 3, 6, 7] rfl) (R_parting_262_run hk119 hL h))
    · refine ai (r_icmp_eq_f (pc := 238) 262 (by decide +kernel : decode k_R_parting.2.1 238 = .ok (.if_icmp .eq (24), 3)) (by decide) c2) ?_
      refine ai (r_iload (pc := 241) (k := 7) (by decide +kernel : decode k_R_parting.2.1 241 = .ok (.iload 9, 2)) rfl) ?_
      refine ai (r_iload (pc := 243) (k := 4) (by decide +kernel : decode k_R_parting.2.1 243 = .ok (.iload 5, 2)) rfl) ?_
      rcases ite_some h with ⟨c3, h⟩ | ⟨c3, h⟩
      · refine ai (r_icmp_lt_t (pc := 245) (tgt := 262) (by decide +kernel : decode k_R_parting.2.1 245 = .ok (.if_icmp .lt (17), 3)) (by decide) c3) ?_
        exact (ai (r_sub [0, 1, 2, 3, 6, 7] rfl) (R_parting_262_run hk119 hL h))
      · refine ai (r_icmp_lt_f (pc := 245) 262 (by decide +kernel : decode k_R_parting.2.1 245 = .ok (.if_icmp .lt (17), 3)) (by decide) c3) ?_
        refine ai (r_iload (pc := 248) (k := 7) (by decide +kernel : decode k_R_parting.2.1 248 = .ok (.iload 9, 2)) rfl) ?_
        refine ai (r_iload (pc := 250) (k := 4) (by decide +kernel : decode k_R_parting.2.1 250 = .ok (.iload 5, 2)) rfl) ?_
        rcases ite_some h with ⟨c4, h⟩ | ⟨c4, h⟩
        · refine ai (r_icmp_ne_f (pc := 252) 319 (by decide +kernel : decode k_R_parting.2.1 252 = .ok (.if_icmp .ne (67), 3)) (by decide) c4) ?_
          refine ai (r_iload (pc := 255) (k := 6) (by decide +kernel : decode k_R_parting.2.1 255 = .ok (.iload 8, 2)) rfl) ?_
          refine ai (r_iload (pc := 257) (k := 5) (by decide +kernel : decode k_R_parting.2.1 257 = .ok (.iload 6, 2)) rfl) ?_
          rcases ite_some h with ⟨c5, h⟩ | ⟨c5, h⟩
          · refine ai (r_icmp_ge_t (pc := 259) (tgt := 319) (by decide +kernel : decode k_R_parting.2.1 259 = .ok (.if_icmp .ge (60), 3)) (by decide) c5) ?_
            exact (ai (r_sub [0, 1, 2, 3, 4, 5] rfl) (R_parting_319_run hk119 hL h))
          · refine ai (r_icmp_ge_f (pc := 259) 319 (by decide +kernel : decode k_R_parting.2.1 259 = .ok (.if_icmp .ge (60), 3)) (by decide) c5) ?_
            exact (ai (r_sub [0, 1, 2, 3, 6, 7] rfl) (R_parting_262_run hk119 hL h))
        · refine ai (r_icmp_ne_t (pc := 252) (tgt := 319) (by decide +kernel : decode k_R_parting.2.1 252 = .ok (.if_icmp .ne (67), 3)) (by decide) c4) ?_
          exact (ai (r_sub [0, 1, 2, 3, 4, 5] rfl) (R_parting_319_run hk119 hL h))
set_option maxRecDepth 100000 in
set_option maxHeartbeats 4000000 in
theorem R_parting_182_run {k119 : Int32 → Int32 → Int32 → Int32 → Int32 → Int32 → Mem → Option (Int32 × Mem)} {n : Nat} {x2 : Int32} {x3 : Int32} {x4 : Int32} {x5 : Int32} {x6 : Int32} {x8 : Int32} {x9 : Int32} {x10 : Int32} {m m' : Mem} {r : Int32} (hk119 : ∀ (x2 : Int32) (x3 : Int32) (x4 : Int32) (x5 : Int32) (x6 : Int32) (x7 : Int32) (m : Mem) (r : Int32) (m' : Mem), RL m → k119 x2 x3 x4 x5 x6 x7 m = some (r, m') → Run k_R_parting 119 [(0, .ref 0), (2, .int x2), (3, .int x3), (4, .int x4), (5, .int x5), (6, .int x6), (7, .int x7)] [] m (some (.int r)) m' ∧ RL m') (hL : RL m) (h : R_parting_182 k119 n x2 x3 x4 x5 x6 x8 x9 x10 m = some (r, m')) : Run k_R_parting 182 [(0, .ref 0), (2, .int x2), (3, .int x3), (4, .int x4), (5, .int x5), (6, .int x6), (8, .int x8), (9, .int x9), (10, .int x10)] [] m (some (.int r)) m' ∧ RL m' := by
  induction n generalizing x2 x3 x4 x5 x6 x8 x9 x10 m r m' with
  | zero => exact absurd h (by simp [R_parting_182])
  | succ n ih =>
    rw [R_parting_182.eq_2] at h
    refine ai (r_iload (pc := 182) (k := 8) (by decide +kernel : decode k_R_parting.2.1 182 = .ok (.iload 10, 2)) rfl) ?_
    refine ai (r_iload (pc := 184) (k := 6) (by decide +kernel : decode k_R_parting.2.1 184 = .ok (.iload 8, 2)) rfl) ?_
    rcases ite_some h with ⟨c1, h⟩ | ⟨c1, h⟩
    · refine ai (r_icmp_ge_t (pc := 186) (tgt := 229) (by decide +kernel : decode k_R_parting.2.1 186 = .ok (.if_icmp .ge (43), 3)) (by decide) c1) ?_
      exact (ai (r_sub [0, 1, 2, 3, 4, 5, 6, 7] rfl) (R_parting_229_run hk119 hL h))
    · refine ai (r_icmp_ge_f (pc := 186) 229 (by decide +kernel : decode k_R_parting.2.1 186 = .ok (.if_icmp .ge (43), 3)) (by decide) c1) ?_
      refine ai (r_iload (pc := 189) (k := 7) (by decide +kernel : decode k_R_parting.2.1 189 = .ok (.iload 9, 2)) rfl) ?_
      refine ai (r_iconst (pc := 191) (by decide +kernel : decode k_R_parting.2.1 191 = .ok (.iconst (-1), 1)) ic_m1) ?_
      rcases ite_some h with ⟨c2, h⟩ | ⟨c2, h⟩
      · refine ai (r_icmp_eq_t (pc := 192) (tgt := 229) (by decide +kernel : decode k_R_parting.2.1 192 = .ok (.if_icmp .eq (37), 3)) (by decide) c2) ?_
        exact (ai (r_sub [0, 1, 2, 3, 4, 5, 6, 7] rfl) (R_parting_229_run hk119 hL h))
      · refine ai (r_icmp_eq_f (pc := 192) 229 (by decide +kernel : decode k_R_parting.2.1 192 = .ok (.if_icmp .eq (37), 3)) (by decide) c2) ?_
        refine ai (p_aload_n (pc := 195) (k := 0) (by decide +kernel : decode k_R_parting.2.1 195 = .ok (.aload_n 0, 1)) rfl rfl) ?_
        refine ai (r_iload (pc := 196) (k := 8) (by decide +kernel : decode k_R_parting.2.1 196 = .ok (.iload 10, 2)) rfl) ?_
        refine ai (r_iload (pc := 198) (k := 3) (by decide +kernel : decode k_R_parting.2.1 198 = .ok (.iload 4, 2)) rfl) ?_
        refine ai (r_iload_n (pc := 200) (k := 2) (by decide +kernel : decode k_R_parting.2.1 200 = .ok (.iload_n 3, 1)) rfl rfl) ?_
        obtain ⟨r3, m4, hr3, h⟩ := bn_some h
        have q5 := R_changes_run hL hr3
        have c6 := (RC_0 hL).1
        have hL := q5.2
        refine ai (q_callV (pc := 201) (As := [.int x10, .int x4, .int x3]) (st := []) (st2 := [.int r3]) (b := 0) rfl rfl (by decide +kernel : decode k_R_parting.2.1 201 = .ok (.invokevirtual 635, 3)) lc_12_635 mo_R_changes ⟨Nat.le_of_ble_eq_true rfl, Nat.le_of_ble_eq_true rfl⟩ (Nat.le_of_ble_eq_true rfl) (Nat.le_of_ble_eq_true rfl) c6 q5.1) ?_
        refine ai (e_istore (pc := 204) rfl (by decide +kernel : decode k_R_parting.2.1 204 = .ok (.istore 11, 2)) (by decide) rfl) ?_
        refine ai (r_iload (pc := 206) (k := 0) (by decide +kernel : decode k_R_parting.2.1 206 = .ok (.iload 11, 2)) rfl) ?_
        refine ai (r_iconst (pc := 208) (by decide +kernel : decode k_R_parting.2.1 208 = .ok (.iconst (-1), 1)) ic_m1) ?_
        rcases ite_some h with ⟨c7, h⟩ | ⟨c7, h⟩
        · refine ai (r_icmp_ne_f (pc := 209) 216 (by decide +kernel : decode k_R_parting.2.1 209 = .ok (.if_icmp .ne (7), 3)) (by decide) c7) ?_
          refine ai (r_iconst (pc := 212) (by decide +kernel : decode k_R_parting.2.1 212 = .ok (.iconst (-1), 1)) ic_m1) ?_
          refine ai (r_goto (pc := 213) (tgt := 221) (by decide +kernel : decode k_R_parting.2.1 213 = .ok (.goto (8), 3)) (by decide)) ?_
          exact (ai (r_sub [1, 2, 3, 4, 5, 6, 7, 9] rfl) (R_parting_221_run hk119 (fun _ _ _ _ _ _ _ _ _ _ _ q1 q3 => ih q1 q3) hL h))
        · refine ai (r_icmp_ne_t (pc := 209) (tgt := 216) (by decide +kernel : decode k_R_parting.2.1 209 = .ok (.if_icmp .ne (7), 3)) (by decide) c7) ?_
          refine ai (r_iload (pc := 216) (k := 8) (by decide +kernel : decode k_R_parting.2.1 216 = .ok (.iload 9, 2)) rfl) ?_
          refine ai (r_iload (pc := 218) (k := 0) (by decide +kernel : decode k_R_parting.2.1 218 = .ok (.iload 11, 2)) rfl) ?_
          refine ai (r_iadd (pc := 220) (by decide +kernel : decode k_R_parting.2.1 220 = .ok (.iadd, 1))) ?_
          exact (ai (r_sub [1, 2, 3, 4, 5, 6, 7, 9] rfl) (R_parting_221_run hk119 (fun _ _ _ _ _ _ _ _ _ _ _ q1 q3 => ih q1 q3) hL h))
set_option maxRecDepth 100000 in
set_option maxHeartbeats 4000000 in
theorem R_parting_177_run {k119 : Int32 → Int32 → Int32 → Int32 → Int32 → Int32 → Mem → Option (Int32 × Mem)} {x2 : Int32} {x3 : Int32} {x4 : Int32} {x5 : Int32} {x6 : Int32} {x8 : Int32} {s0 : Int32} {m m' : Mem} {r : Int32} (hk119 : ∀ (x2 : Int32) (x3 : Int32) (x4 : Int32) (x5 : Int32) (x6 : Int32) (x7 : Int32) (m : Mem) (r : Int32) (m' : Mem), RL m → k119 x2 x3 x4 x5 x6 x7 m = some (r, m') → Run k_R_parting 119 [(0, .ref 0), (2, .int x2), (3, .int x3), (4, .int x4), (5, .int x5), (6, .int x6), (7, .int x7)] [] m (some (.int r)) m' ∧ RL m') (hL : RL m) (h : R_parting_177 k119 x2 x3 x4 x5 x6 x8 s0 m = some (r, m')) : Run k_R_parting 177 [(0, .ref 0), (2, .int x2), (3, .int x3), (4, .int x4), (5, .int x5), (6, .int x6), (8, .int x8)] [.int s0] m (some (.int r)) m' ∧ RL m' := by
  unfold R_parting_177 at h
  refine ai (e_istore (pc := 177) rfl (by decide +kernel : decode k_R_parting.2.1 177 = .ok (.istore 9, 2)) (by decide) rfl) ?_
  refine ai (r_iconst (pc := 179) (by decide +kernel : decode k_R_parting.2.1 179 = .ok (.iconst 0, 1)) ic_0) ?_
  refine ai (e_istore (pc := 180) rfl (by decide +kernel : decode k_R_parting.2.1 180 = .ok (.istore 10, 2)) (by decide) rfl) ?_
  exact (ai (r_sub [2, 3, 4, 5, 6, 7, 8, 1, 0] rfl) (R_parting_182_run hk119 hL h))
set_option maxRecDepth 100000 in
set_option maxHeartbeats 4000000 in
theorem R_parting_166_run {k119 : Int32 → Int32 → Int32 → Int32 → Int32 → Int32 → Mem → Option (Int32 × Mem)} {x2 : Int32} {x3 : Int32} {x4 : Int32} {x5 : Int32} {x6 : Int32} {x8 : Int32} {m m' : Mem} {r : Int32} (hk119 : ∀ (x2 : Int32) (x3 : Int32) (x4 : Int32) (x5 : Int32) (x6 : Int32) (x7 : Int32) (m : Mem) (r : Int32) (m' : Mem), RL m → k119 x2 x3 x4 x5 x6 x7 m = some (r, m') → Run k_R_parting 119 [(0, .ref 0), (2, .int x2), (3, .int x3), (4, .int x4), (5, .int x5), (6, .int x6), (7, .int x7)] [] m (some (.int r)) m' ∧ RL m') (hL : RL m) (h : R_parting_166 k119 x2 x3 x4 x5 x6 x8 m = some (r, m')) : Run k_R_parting 166 [(0, .ref 0), (2, .int x2), (3, .int x3), (4, .int x4), (5, .int x5), (6, .int x6), (8, .int x8)] [] m (some (.int r)) m' ∧ RL m' := by
  unfold R_parting_166 at h
  refine ai (r_iload (pc := 166) (k := 6) (by decide +kernel : decode k_R_parting.2.1 166 = .ok (.iload 8, 2)) rfl) ?_
  refine ai (r_iload_n (pc := 168) (k := 1) (by decide +kernel : decode k_R_parting.2.1 168 = .ok (.iload_n 2, 1)) rfl rfl) ?_
  rcases ite_some h with ⟨c1, h⟩ | ⟨c1, h⟩
  · refine ai (r_icmp_le_t (pc := 169) (tgt := 176) (by decide +kernel : decode k_R_parting.2.1 169 = .ok (.if_icmp .le (7), 3)) (by decide) c1) ?_
    refine ai (r_iconst (pc := 176) (by decide +kernel : decode k_R_parting.2.1 176 = .ok (.iconst 0, 1)) ic_0) ?_
    exact (R_parting_177_run hk119 hL h)
  · refine ai (r_icmp_le_f (pc := 169) 176 (by decide +kernel : decode k_R_parting.2.1 169 = .ok (.if_icmp .le (7), 3)) (by decide) c1) ?_
    refine ai (r_iconst (pc := 172) (by decide +kernel : decode k_R_parting.2.1 172 = .ok (.iconst (-1), 1)) ic_m1) ?_
    refine ai (r_goto (pc := 173) (tgt := 177) (by decide +kernel : decode k_R_parting.2.1 173 = .ok (.goto (4), 3)) (by decide)) ?_
    exact (R_parting_177_run hk119 hL h)
set_option maxRecDepth 100000 in
set_option maxHeartbeats 4000000 in
theorem R_parting_130_run {k119 : Int32 → Int32 → Int32 → Int32 → Int32 → Int32 → Mem → Option (Int32 × Mem)} {n : Nat} {x2 : Int32} {x3 : Int32} {x4 : Int32} {x5 : Int32} {x6 : Int32} {x8 : Int32} {x9 : Int32} {m m' : Mem} {r : Int32} (hk119 : ∀ (x2 : Int32) (x3 : Int32) (x4 : Int32) (x5 : Int32) (x6 : Int32) (x7 : Int32) (m : Mem) (r : Int32) (m' : Mem), RL m → k119 x2 x3 x4 x5 x6 x7 m = some (r, m') → Run k_R_parting 119 [(0, .ref 0), (2, .int x2), (3, .int x3), (4, .int x4), (5, .int x5), (6, .int x6), (7, .int x7)] [] m (some (.int r)) m' ∧ RL m') (hL : RL m) (h : R_parting_130 k119 n x2 x3 x4 x5 x6 x8 x9 m = some (r, m')) : Run k_R_parting 130 [(0, .ref 0), (2, .int x2), (3, .int x3), (4, .int x4), (5, .int x5), (6, .int x6), (8, .int x8), (9, .int x9)] [] m (some (.int r)) m' ∧ RL m' := by
  induction n generalizing x2 x3 x4 x5 x6 x8 x9 m r m' with
  | zero => exact absurd h (by simp [R_parting_130])
  | succ n ih =>
    rw [R_parting_130.eq_2] at h
    refine ai (r_iload (pc := 130) (k := 7) (by decide +kernel : decode k_R_parting.2.1 130 = .ok (.iload 9, 2)) rfl) ?_
    refine ai (r_iload (pc := 132) (k := 3) (by decide +kernel : decode k_R_parting.2.1 132 = .ok (.iload 4, 2)) rfl) ?_
    rcases ite_some h with ⟨c1, h⟩ | ⟨c1, h⟩
    · refine ai (r_icmp_ge_t (pc := 134) (tgt := 166) (by decide +kernel : decode k_R_parting.2.1 134 = .ok (.if_icmp .ge (32), 3)) (by decide) c1) ?_
      exact (ai (r_sub [0, 1, 2, 3, 4, 5, 6] rfl) (R_parting_166_run hk119 hL h))
    · refine ai (r_icmp_ge_f (pc := 134) 166 (by decide +kernel : decode k_R_parting.2.1 134 = .ok (.if_icmp .ge (32), 3)) (by decide) c1) ?_
      refine ai (p_aload_n (pc := 137) (k := 0) (by decide +kernel : decode k_R_parting.2.1 137 = .ok (.aload_n 0, 1)) rfl rfl) ?_
      refine ai (p_getr (pc := 138) (RR_1653_0 hL) (by decide +kernel : decode k_R_parting.2.1 138 = .ok (.getfield 260, 3)) lg_12_260 (RC_0 hL).1) ?_
      refine ai (r_iload (pc := 141) (k := 7) (by decide +kernel : decode k_R_parting.2.1 141 = .ok (.iload 9, 2)) rfl) ?_
      obtain ⟨g2, h⟩ := gd_some h
      refine ai (p_iald (pc := 143) (by decide +kernel : decode k_R_parting.2.1 143 = .ok (.iaload, 1)) (RC_78 hL).1 (RC_78 hL).2 g2) ?_
      refine ai (r_iload (pc := 144) (k := 6) (by decide +kernel : decode k_R_parting.2.1 144 = .ok (.iload 8, 2)) rfl) ?_
      rcases ite_some h with ⟨c3, h⟩ | ⟨c3, h⟩
      · refine ai (r_icmp_lt_t (pc := 146) (tgt := 160) (by decide +kernel : decode k_R_parting.2.1 146 = .ok (.if_icmp .lt (14), 3)) (by decide) c3) ?_
        exact (R_parting_160_run hk119 (fun _ _ _ _ _ _ _ _ _ _ q1 q3 => ih q1 q3) hL h)
      · refine ai (r_icmp_lt_f (pc := 146) 160 (by decide +kernel : decode k_R_parting.2.1 146 = .ok (.if_icmp .lt (14), 3)) (by decide) c3) ?_
        refine ai (p_aload_n (pc := 149) (k := 0) (by decide +kernel : decode k_R_parting.2.1 149 = .ok (.aload_n 0, 1)) rfl rfl) ?_
        refine ai (p_getr (pc := 150) (RR_1653_0 hL) (by decide +kernel : decode k_R_parting.2.1 150 = .ok (.getfield 260, 3)) lg_12_260 (RC_0 hL).1) ?_
        refine ai (r_iload (pc := 153) (k := 7) (by decide +kernel : decode k_R_parting.2.1 153 = .ok (.iload 9, 2)) rfl) ?_
        obtain ⟨g4, h⟩ := gd_some h
        refine ai (p_iald (pc := 155) (by decide +kernel : decode k_R_parting.2.1 155 = .ok (.iaload, 1)) (RC_78 hL).1 (RC_78 hL).2 g4) ?_
        refine ai (r_iconst (pc := 156) (by decide +kernel : decode k_R_parting.2.1 156 = .ok (.iconst 1, 1)) ic_1) ?_
        refine ai (r_iadd (pc := 157) (by decide +kernel : decode k_R_parting.2.1 157 = .ok (.iadd, 1))) ?_
        obtain ⟨v5, hv5, h⟩ := vb_some h
        refine ai (e_istore (pc := 158) hv5 (by decide +kernel : decode k_R_parting.2.1 158 = .ok (.istore 8, 2)) (by decide) rfl) ?_
        exact (ai (r_sub [1, 2, 3, 4, 5, 6, 0, 7] rfl) (R_parting_160_run hk119 (fun _ _ _ _ _ _ _ _ _ _ q1 q3 => ih q1 q3) hL h))
set_option maxRecDepth 100000 in
set_option maxHeartbeats 4000000 in
theorem R_parting_417_run {x5 : Int32} {m m' : Mem} {r : Int32} (hL : RL m) (h : R_parting_417 x5 m = some (r, m')) : Run k_R_parting 417 [(0, .ref 0), (5, .int x5)] [] m (some (.int r)) m' ∧ RL m' := by
  unfold R_parting_417 at h
  refine ai (p_aload_n (pc := 417) (k := 0) (by decide +kernel : decode k_R_parting.2.1 417 = .ok (.aload_n 0, 1)) rfl rfl) ?_
  refine ai (r_iconst (pc := 418) (by decide +kernel : decode k_R_parting.2.1 418 = .ok (.iconst 1, 1)) ic_1) ?_
  have c1 := (RC_0 hL).1
  obtain ⟨m2, hm2, h⟩ := vb_some h
  have hL : RL m2 := by rw [hm2]; exact hL
  refine ai (p_putZ (pc := 419) hm2 (by decide) (by decide +kernel : decode k_R_parting.2.1 419 = .ok (.putfield 641, 3)) lp_12_641 c1) ?_
  refine ai (r_iload (pc := 422) (k := 1) (by decide +kernel : decode k_R_parting.2.1 422 = .ok (.iload 5, 2)) rfl) ?_
  cases h
  exact ⟨r_iret rfl (by decide +kernel : decode k_R_parting.2.1 424 = .ok (.ireturn, 1)), hL⟩
set_option maxRecDepth 100000 in
set_option maxHeartbeats 4000000 in
theorem R_parting_366_run {n : Nat} {x4 : Int32} {x5 : Int32} {x8 : Int32} {m m' : Mem} {r : Int32} (hL : RL m) (h : R_parting_366 n x4 x5 x8 m = some (r, m')) : Run k_R_parting 366 [(0, .ref 0), (4, .int x4), (5, .int x5), (8, .int x8)] [] m (some (.int r)) m' ∧ RL m' := by
  induction n generalizing x4 x5 x8 m r m' with
  | zero => exact absurd h (by simp [R_parting_366])
  | succ n ih =>
    rw [R_parting_366.eq_2] at h
    refine ai (r_iload (pc := 366) (k := 3) (by decide +kernel : decode k_R_parting.2.1 366 = .ok (.iload 8, 2)) rfl) ?_
    refine ai (r_iload (pc := 368) (k := 1) (by decide +kernel : decode k_R_parting.2.1 368 = .ok (.iload 4, 2)) rfl) ?_
    rcases ite_some h with ⟨c1, h⟩ | ⟨c1, h⟩
    · refine ai (r_icmp_ge_t (pc := 370) (tgt := 417) (by decide +kernel : decode k_R_parting.2.1 370 = .ok (.if_icmp .ge (47), 3)) (by decide) c1) ?_
      exact (ai (r_sub [0, 2] rfl) (R_parting_417_run hL h))
    · refine ai (r_icmp_ge_f (pc := 370) 417 (by decide +kernel : decode k_R_parting.2.1 370 = .ok (.if_icmp .ge (47), 3)) (by decide) c1) ?_
      refine ai (p_aload_n (pc := 373) (k := 0) (by decide +kernel : decode k_R_parting.2.1 373 = .ok (.aload_n 0, 1)) rfl rfl) ?_
      refine ai (p_getr (pc := 374) (RR_1649_0 hL) (by decide +kernel : decode k_R_parting.2.1 374 = .ok (.getfield 251, 3)) lg_12_251 (RC_0 hL).1) ?_
      refine ai (p_aload_n (pc := 377) (k := 0) (by decide +kernel : decode k_R_parting.2.1 377 = .ok (.aload_n 0, 1)) rfl rfl) ?_
      refine ai (p_getr (pc := 378) (RR_1652_0 hL) (by decide +kernel : decode k_R_parting.2.1 378 = .ok (.getfield 257, 3)) lg_12_257 (RC_0 hL).1) ?_
      refine ai (r_iload (pc := 381) (k := 3) (by decide +kernel : decode k_R_parting.2.1 381 = .ok (.iload 8, 2)) rfl) ?_
      obtain ⟨g2, h⟩ := gd_some h
      refine ai (p_iald (pc := 383) (by decide +kernel : decode k_R_parting.2.1 383 = .ok (.iaload, 1)) (RC_77 hL).1 (RC_77 hL).2 g2) ?_
      refine ai (p_aload_n (pc := 384) (k := 0) (by decide +kernel : decode k_R_parting.2.1 384 = .ok (.aload_n 0, 1)) rfl rfl) ?_
      refine ai (p_getr (pc := 385) (RR_1655_0 hL) (by decide +kernel : decode k_R_parting.2.1 385 = .ok (.getfield 266, 3)) lg_12_266 (RC_0 hL).1) ?_
      refine ai (r_iload (pc := 388) (k := 3) (by decide +kernel : decode k_R_parting.2.1 388 = .ok (.iload 8, 2)) rfl) ?_
      obtain ⟨g3, h⟩ := gd_some h
      refine ai (p_iald (pc := 390) (by decide +kernel : decode k_R_parting.2.1 390 = .ok (.iaload, 1)) (RC_80 hL).1 (RC_80 hL).2 g3) ?_
      obtain ⟨g4, h⟩ := gd_some h
      have c5 := (RC_75 hL).1
      have c6 := (RC_75 hL).2
      obtain ⟨m7, hm7, h⟩ := vb_some h
      have hL : RL m7 := by rw [hm7]; exact hL
      refine ai (p_iast (pc := 391) hm7 (by decide +kernel : decode k_R_parting.2.1 391 = .ok (.iastore, 1)) c5 c6 g4) ?_
      refine ai (p_aload_n (pc := 392) (k := 0) (by decide +kernel : decode k_R_parting.2.1 392 = .ok (.aload_n 0, 1)) rfl rfl) ?_
      refine ai (p_getr (pc := 393) (RR_1650_0 hL) (by decide +kernel : decode k_R_parting.2.1 393 = .ok (.getfield 254, 3)) lg_12_254 (RC_0 hL).1) ?_
      refine ai (p_aload_n (pc := 396) (k := 0) (by decide +kernel : decode k_R_parting.2.1 396 = .ok (.aload_n 0, 1)) rfl rfl) ?_
      refine ai (p_getr (pc := 397) (RR_1652_0 hL) (by decide +kernel : decode k_R_parting.2.1 397 = .ok (.getfield 257, 3)) lg_12_257 (RC_0 hL).1) ?_
      refine ai (r_iload (pc := 400) (k := 3) (by decide +kernel : decode k_R_parting.2.1 400 = .ok (.iload 8, 2)) rfl) ?_
      obtain ⟨g8, h⟩ := gd_some h
      refine ai (p_iald (pc := 402) (by decide +kernel : decode k_R_parting.2.1 402 = .ok (.iaload, 1)) (RC_77 hL).1 (RC_77 hL).2 g8) ?_
      refine ai (p_aload_n (pc := 403) (k := 0) (by decide +kernel : decode k_R_parting.2.1 403 = .ok (.aload_n 0, 1)) rfl rfl) ?_
      refine ai (p_getr (pc := 404) (RR_1656_0 hL) (by decide +kernel : decode k_R_parting.2.1 404 = .ok (.getfield 269, 3)) lg_12_269 (RC_0 hL).1) ?_
      refine ai (r_iload (pc := 407) (k := 3) (by decide +kernel : decode k_R_parting.2.1 407 = .ok (.iload 8, 2)) rfl) ?_
      obtain ⟨g9, h⟩ := gd_some h
      refine ai (p_iald (pc := 409) (by decide +kernel : decode k_R_parting.2.1 409 = .ok (.iaload, 1)) (RC_81 hL).1 (RC_81 hL).2 g9) ?_
      obtain ⟨g10, h⟩ := gd_some h
      have c11 := (RC_76 hL).1
      have c12 := (RC_76 hL).2
      obtain ⟨m13, hm13, h⟩ := vb_some h
      have hL : RL m13 := by rw [hm13]; exact hL
      refine ai (p_iast (pc := 410) hm13 (by decide +kernel : decode k_R_parting.2.1 410 = .ok (.iastore, 1)) c11 c12 g10) ?_
      obtain ⟨v14, hv14, h⟩ := vb_some h
      refine ai (e_iinc (pc := 411) (k := 3) hv14 ic_1 (by decide +kernel : decode k_R_parting.2.1 411 = .ok (.iinc 8 (1), 3)) rfl (by decide) rfl) ?_
      refine ai (r_goto (pc := 414) (tgt := 366) (by decide +kernel : decode k_R_parting.2.1 414 = .ok (.goto (-48), 3)) (by decide)) ?_
      exact (ai (r_sub [1, 2, 3, 0] rfl) (ih hL h))
set_option maxRecDepth 100000 in
set_option maxHeartbeats 4000000 in
theorem R_parting_363_run {x4 : Int32} {x5 : Int32} {m m' : Mem} {r : Int32} (hL : RL m) (h : R_parting_363 x4 x5 m = some (r, m')) : Run k_R_parting 363 [(0, .ref 0), (4, .int x4), (5, .int x5)] [] m (some (.int r)) m' ∧ RL m' := by
  unfold R_parting_363 at h
  refine ai (r_iconst (pc := 363) (by decide +kernel : decode k_R_parting.2.1 363 = .ok (.iconst 0, 1)) ic_0) ?_
  refine ai (e_istore (pc := 364) rfl (by decide +kernel : decode k_R_parting.2.1 364 = .ok (.istore 8, 2)) (by decide) rfl) ?_
  exact (ai (r_sub [1, 2, 3, 0] rfl) (R_parting_366_run hL h))
set_option maxRecDepth 100000 in
set_option maxHeartbeats 4000000 in
theorem R_parting_342_run {n : Nat} {x4 : Int32} {x5 : Int32} {x8 : Int32} {m m' : Mem} {r : Int32} (hL : RL m) (h : R_parting_342 n x4 x5 x8 m = some (r, m')) : Run k_R_parting 342 [(0, .ref 0), (4, .int x4), (5, .int x5), (8, .int x8)] [] m (some (.int r)) m' ∧ RL m' := by
  induction n generalizing x4 x5 x8 m r m' with
  | zero => exact absurd h (by simp [R_parting_342])
  | succ n ih =>
    rw [R_parting_342.eq_2] at h
    refine ai (r_iload (pc := 342) (k := 3) (by decide +kernel : decode k_R_parting.2.1 342 = .ok (.iload 8, 2)) rfl) ?_
    refine ai (r_bipush (pc := 344) (by decide +kernel : decode k_R_parting.2.1 344 = .ok (.bipush (16), 2)) (by decide : _ = (16 : Int32))) ?_
    rcases ite_some h with ⟨c1, h⟩ | ⟨c1, h⟩
    · refine ai (r_icmp_ge_t (pc := 346) (tgt := 363) (by decide +kernel : decode k_R_parting.2.1 346 = .ok (.if_icmp .ge (17), 3)) (by decide) c1) ?_
      exact (ai (r_sub [0, 1, 2] rfl) (R_parting_363_run hL h))
    · refine ai (r_icmp_ge_f (pc := 346) 363 (by decide +kernel : decode k_R_parting.2.1 346 = .ok (.if_icmp .ge (17), 3)) (by decide) c1) ?_
      refine ai (p_aload_n (pc := 349) (k := 0) (by decide +kernel : decode k_R_parting.2.1 349 = .ok (.aload_n 0, 1)) rfl rfl) ?_
      refine ai (p_getr (pc := 350) (RR_1649_0 hL) (by decide +kernel : decode k_R_parting.2.1 350 = .ok (.getfield 251, 3)) lg_12_251 (RC_0 hL).1) ?_
      refine ai (r_iload (pc := 353) (k := 3) (by decide +kernel : decode k_R_parting.2.1 353 = .ok (.iload 8, 2)) rfl) ?_
      refine ai (r_iconst (pc := 355) (by decide +kernel : decode k_R_parting.2.1 355 = .ok (.iconst (-1), 1)) ic_m1) ?_
      obtain ⟨g2, h⟩ := gd_some h
      have c3 := (RC_75 hL).1
      have c4 := (RC_75 hL).2
      obtain ⟨m5, hm5, h⟩ := vb_some h
      have hL : RL m5 := by rw [hm5]; exact hL
      refine ai (p_iast (pc := 356) hm5 (by decide +kernel : decode k_R_parting.2.1 356 = .ok (.iastore, 1)) c3 c4 g2) ?_
      obtain ⟨v6, hv6, h⟩ := vb_some h
      refine ai (e_iinc (pc := 357) (k := 3) hv6 ic_1 (by decide +kernel : decode k_R_parting.2.1 357 = .ok (.iinc 8 (1), 3)) rfl (by decide) rfl) ?_
      refine ai (r_goto (pc := 360) (tgt := 342) (by decide +kernel : decode k_R_parting.2.1 360 = .ok (.goto (-18), 3)) (by decide)) ?_
      exact (ai (r_sub [1, 2, 3, 0] rfl) (ih hL h))
set_option maxRecDepth 100000 in
set_option maxHeartbeats 4000000 in
theorem R_parting_330_run {x4 : Int32} {x5 : Int32} {m m' : Mem} {r : Int32} (hL : RL m) (h : R_parting_330 x4 x5 m = some (r, m')) : Run k_R_parting 330 [(0, .ref 0), (4, .int x4), (5, .int x5)] [] m (some (.int r)) m' ∧ RL m' := by
  unfold R_parting_330 at h
  refine ai (r_iload (pc := 330) (k := 2) (by decide +kernel : decode k_R_parting.2.1 330 = .ok (.iload 5, 2)) rfl) ?_
  refine ai (r_iconst (pc := 332) (by decide +kernel : decode k_R_parting.2.1 332 = .ok (.iconst (-1), 1)) ic_m1) ?_
  rcases ite_some h with ⟨c1, h⟩ | ⟨c1, h⟩
  · refine ai (r_icmp_ne_f (pc := 333) 339 (by decide +kernel : decode k_R_parting.2.1 333 = .ok (.if_icmp .ne (6), 3)) (by decide) c1) ?_
    refine ai (r_bipush (pc := 336) (by decide +kernel : decode k_R_parting.2.1 336 = .ok (.bipush (-2), 2)) (by decide : _ = (-2 : Int32))) ?_
    cases h
    exact ⟨r_iret rfl (by decide +kernel : decode k_R_parting.2.1 338 = .ok (.ireturn, 1)), hL⟩
  · refine ai (r_icmp_ne_t (pc := 333) (tgt := 339) (by decide +kernel : decode k_R_parting.2.1 333 = .ok (.if_icmp .ne (6), 3)) (by decide) c1) ?_
    refine ai (r_iconst (pc := 339) (by decide +kernel : decode k_R_parting.2.1 339 = .ok (.iconst 0, 1)) ic_0) ?_
    refine ai (e_istore (pc := 340) rfl (by decide +kernel : decode k_R_parting.2.1 340 = .ok (.istore 8, 2)) (by decide) rfl) ?_
    exact (ai (r_sub [1, 2, 3, 0] rfl) (R_parting_342_run hL h))
set_option maxRecDepth 100000 in
set_option maxHeartbeats 4000000 in
theorem R_parting_119_run {n : Nat} {x2 : Int32} {x3 : Int32} {x4 : Int32} {x5 : Int32} {x6 : Int32} {x7 : Int32} {m m' : Mem} {r : Int32} (hL : RL m) (h : R_parting_119 n x2 x3 x4 x5 x6 x7 m = some (r, m')) : Run k_R_parting 119 [(0, .ref 0), (2, .int x2), (3, .int x3), (4, .int x4), (5, .int x5), (6, .int x6), (7, .int x7)] [] m (some (.int r)) m' ∧ RL m' := by
  induction n generalizing x2 x3 x4 x5 x6 x7 m r m' with
  | zero => exact absurd h (by simp [R_parting_119])
  | succ n ih =>
    rw [R_parting_119.eq_2] at h
    refine ai (r_iload (pc := 119) (k := 6) (by decide +kernel : decode k_R_parting.2.1 119 = .ok (.iload 7, 2)) rfl) ?_
    rcases ite_some h with ⟨c1, h⟩ | ⟨c1, h⟩
    · refine ai (r_if_eq_t (pc := 121) (tgt := 330) (by decide +kernel : decode k_R_parting.2.1 121 = .ok (.ifCond .eq (209), 3)) (by decide) c1) ?_
      exact (ai (r_sub [0, 3, 4] rfl) (R_parting_330_run hL h))
    · refine ai (r_if_eq_f (pc := 121) 330 (by decide +kernel : decode k_R_parting.2.1 121 = .ok (.ifCond .eq (209), 3)) (by decide) c1) ?_
      refine ai (r_iconst (pc := 124) (by decide +kernel : decode k_R_parting.2.1 124 = .ok (.iconst 0, 1)) ic_0) ?_
      refine ai (e_istore (pc := 125) rfl (by decide +kernel : decode k_R_parting.2.1 125 = .ok (.istore 8, 2)) (by decide) rfl) ?_
      refine ai (r_iconst (pc := 127) (by decide +kernel : decode k_R_parting.2.1 127 = .ok (.iconst 0, 1)) ic_0) ?_
      refine ai (e_istore (pc := 128) rfl (by decide +kernel : decode k_R_parting.2.1 128 = .ok (.istore 9, 2)) (by decide) rfl) ?_
      exact (ai (r_sub [2, 3, 4, 5, 6, 7, 1, 0] rfl) (R_parting_130_run (fun _ _ _ _ _ _ _ _ _ q1 q3 => ih q1 q3) hL h))
set_option maxRecDepth 100000 in
set_option maxHeartbeats 4000000 in
theorem R_parting_116_run {x2 : Int32} {x3 : Int32} {x4 : Int32} {x5 : Int32} {x6 : Int32} {m m' : Mem} {r : Int32} (hL : RL m) (h : R_parting_116 x2 x3 x4 x5 x6 m = some (r, m')) : Run k_R_parting 116 [(0, .ref 0), (2, .int x2), (3, .int x3), (4, .int x4), (5, .int x5), (6, .int x6)] [] m (some (.int r)) m' ∧ RL m' := by
  unfold R_parting_116 at h
  refine ai (r_iconst (pc := 116) (by decide +kernel : decode k_R_parting.2.1 116 = .ok (.iconst 1, 1)) ic_1) ?_
  refine ai (e_istore (pc := 117) rfl (by decide +kernel : decode k_R_parting.2.1 117 = .ok (.istore 7, 2)) (by decide) rfl) ?_
  exact (ai (r_sub [1, 2, 3, 4, 5, 6, 0] rfl) (R_parting_119_run hL h))
set_option maxRecDepth 100000 in
set_option maxHeartbeats 4000000 in
theorem R_parting_95_run {n : Nat} {x2 : Int32} {x3 : Int32} {x4 : Int32} {x5 : Int32} {x6 : Int32} {x7 : Int32} {m m' : Mem} {r : Int32} (hL : RL m) (h : R_parting_95 n x2 x3 x4 x5 x6 x7 m = some (r, m')) : Run k_R_parting 95 [(0, .ref 0), (2, .int x2), (3, .int x3), (4, .int x4), (5, .int x5), (6, .int x6), (7, .int x7)] [] m (some (.int r)) m' ∧ RL m' := by
  induction n generalizing x2 x3 x4 x5 x6 x7 m r m' with
  | zero => exact absurd h (by simp [R_parting_95])
  | succ n ih =>
    rw [R_parting_95.eq_2] at h
    refine ai (r_iload (pc := 95) (k := 6) (by decide +kernel : decode k_R_parting.2.1 95 = .ok (.iload 7, 2)) rfl) ?_
    refine ai (r_iload (pc := 97) (k := 3) (by decide +kernel : decode k_R_parting.2.1 97 = .ok (.iload 4, 2)) rfl) ?_
    rcases ite_some h with ⟨c1, h⟩ | ⟨c1, h⟩
    · refine ai (r_icmp_ge_t (pc := 99) (tgt := 116) (by decide +kernel : decode k_R_parting.2.1 99 = .ok (.if_icmp .ge (17), 3)) (by decide) c1) ?_
      exact (ai (r_sub [0, 1, 2, 3, 4, 5] rfl) (R_parting_116_run hL h))
    · refine ai (r_icmp_ge_f (pc := 99) 116 (by decide +kernel : decode k_R_parting.2.1 99 = .ok (.if_icmp .ge (17), 3)) (by decide) c1) ?_
      refine ai (p_aload_n (pc := 102) (k := 0) (by decide +kernel : decode k_R_parting.2.1 102 = .ok (.aload_n 0, 1)) rfl rfl) ?_
      refine ai (p_getr (pc := 103) (RR_1653_0 hL) (by decide +kernel : decode k_R_parting.2.1 103 = .ok (.getfield 260, 3)) lg_12_260 (RC_0 hL).1) ?_
      refine ai (r_iload (pc := 106) (k := 6) (by decide +kernel : decode k_R_parting.2.1 106 = .ok (.iload 7, 2)) rfl) ?_
      refine ai (r_iconst (pc := 108) (by decide +kernel : decode k_R_parting.2.1 108 = .ok (.iconst 0, 1)) ic_0) ?_
      obtain ⟨g2, h⟩ := gd_some h
      have c3 := (RC_78 hL).1
      have c4 := (RC_78 hL).2
      obtain ⟨m5, hm5, h⟩ := vb_some h
      have hL : RL m5 := by rw [hm5]; exact hL
      refine ai (p_iast (pc := 109) hm5 (by decide +kernel : decode k_R_parting.2.1 109 = .ok (.iastore, 1)) c3 c4 g2) ?_
      obtain ⟨v6, hv6, h⟩ := vb_some h
      refine ai (e_iinc (pc := 110) (k := 6) hv6 ic_1 (by decide +kernel : decode k_R_parting.2.1 110 = .ok (.iinc 7 (1), 3)) rfl (by decide) rfl) ?_
      refine ai (r_goto (pc := 113) (tgt := 95) (by decide +kernel : decode k_R_parting.2.1 113 = .ok (.goto (-18), 3)) (by decide)) ?_
      exact (ai (r_sub [1, 2, 3, 4, 5, 6, 0] rfl) (ih hL h))
set_option maxRecDepth 100000 in
set_option maxHeartbeats 4000000 in
theorem R_parting_86_run {x2 : Int32} {x3 : Int32} {x4 : Int32} {m m' : Mem} {r : Int32} (hL : RL m) (h : R_parting_86 x2 x3 x4 m = some (r, m')) : Run k_R_parting 86 [(0, .ref 0), (2, .int x2), (3, .int x3), (4, .int x4)] [] m (some (.int r)) m' ∧ RL m' := by
  unfold R_parting_86 at h
  refine ai (r_iconst (pc := 86) (by decide +kernel : decode k_R_parting.2.1 86 = .ok (.iconst (-1), 1)) ic_m1) ?_
  refine ai (e_istore (pc := 87) rfl (by decide +kernel : decode k_R_parting.2.1 87 = .ok (.istore 5, 2)) (by decide) rfl) ?_
  refine ai (r_iconst (pc := 89) (by decide +kernel : decode k_R_parting.2.1 89 = .ok (.iconst 0, 1)) ic_0) ?_
  refine ai (e_istore (pc := 90) rfl (by decide +kernel : decode k_R_parting.2.1 90 = .ok (.istore 6, 2)) (by decide) rfl) ?_
  refine ai (r_iconst (pc := 92) (by decide +kernel : decode k_R_parting.2.1 92 = .ok (.iconst 0, 1)) ic_0) ?_
  refine ai (e_istore (pc := 93) rfl (by decide +kernel : decode k_R_parting.2.1 93 = .ok (.istore 7, 2)) (by decide) rfl) ?_
  exact (ai (r_sub [3, 4, 5, 6, 2, 1, 0] rfl) (R_parting_95_run hL h))
set_option maxRecDepth 100000 in
set_option maxHeartbeats 4000000 in
theorem R_parting_49_run {n : Nat} {x1 : Int32} {x2 : Int32} {x3 : Int32} {x4 : Int32} {x5 : Int32} {m m' : Mem} {r : Int32} (hL : RL m) (h : R_parting_49 n x1 x2 x3 x4 x5 m = some (r, m')) : Run k_R_parting 49 [(0, .ref 0), (1, .int x1), (2, .int x2), (3, .int x3), (4, .int x4), (5, .int x5)] [] m (some (.int r)) m' ∧ RL m' := by
  induction n generalizing x1 x2 x3 x4 x5 m r m' with
  | zero => exact absurd h (by simp [R_parting_49])
  | succ n ih =>
    rw [R_parting_49.eq_2] at h
    refine ai (r_iload (pc := 49) (k := 5) (by decide +kernel : decode k_R_parting.2.1 49 = .ok (.iload 5, 2)) rfl) ?_
    refine ai (r_bipush (pc := 51) (by decide +kernel : decode k_R_parting.2.1 51 = .ok (.bipush (16), 2)) (by decide : _ = (16 : Int32))) ?_
    rcases ite_some h with ⟨c1, h⟩ | ⟨c1, h⟩
    · refine ai (r_icmp_ge_t (pc := 53) (tgt := 86) (by decide +kernel : decode k_R_parting.2.1 53 = .ok (.if_icmp .ge (33), 3)) (by decide) c1) ?_
      exact (ai (r_sub [0, 2, 3, 4] rfl) (R_parting_86_run hL h))
    · refine ai (r_icmp_ge_f (pc := 53) 86 (by decide +kernel : decode k_R_parting.2.1 53 = .ok (.if_icmp .ge (33), 3)) (by decide) c1) ?_
      refine ai (r_iload_n (pc := 56) (k := 1) (by decide +kernel : decode k_R_parting.2.1 56 = .ok (.iload_n 1, 1)) rfl rfl) ?_
      refine ai (r_iload (pc := 57) (k := 5) (by decide +kernel : decode k_R_parting.2.1 57 = .ok (.iload 5, 2)) rfl) ?_
      refine ai (r_ishr (pc := 59) (by decide +kernel : decode k_R_parting.2.1 59 = .ok (.ishr, 1))) ?_
      refine ai (r_iconst (pc := 60) (by decide +kernel : decode k_R_parting.2.1 60 = .ok (.iconst 1, 1)) ic_1) ?_
      refine ai (r_iand (pc := 61) (by decide +kernel : decode k_R_parting.2.1 61 = .ok (.iand, 1))) ?_
      rcases ite_some h with ⟨c2, h⟩ | ⟨c2, h⟩
      · refine ai (r_if_ne_f (pc := 62) 68 (by decide +kernel : decode k_R_parting.2.1 62 = .ok (.ifCond .ne (6), 3)) (by decide) c2) ?_
        refine ai (r_goto (pc := 65) (tgt := 80) (by decide +kernel : decode k_R_parting.2.1 65 = .ok (.goto (15), 3)) (by decide)) ?_
        exact (R_parting_80_run (fun _ _ _ _ _ _ _ _ q1 q3 => ih q1 q3) hL h)
      · refine ai (r_if_ne_t (pc := 62) (tgt := 68) (by decide +kernel : decode k_R_parting.2.1 62 = .ok (.ifCond .ne (6), 3)) (by decide) c2) ?_
        refine ai (p_aload_n (pc := 68) (k := 0) (by decide +kernel : decode k_R_parting.2.1 68 = .ok (.aload_n 0, 1)) rfl rfl) ?_
        refine ai (p_getr (pc := 69) (RR_1652_0 hL) (by decide +kernel : decode k_R_parting.2.1 69 = .ok (.getfield 257, 3)) lg_12_257 (RC_0 hL).1) ?_
        refine ai (r_iload (pc := 72) (k := 4) (by decide +kernel : decode k_R_parting.2.1 72 = .ok (.iload 4, 2)) rfl) ?_
        refine ai (r_iload (pc := 74) (k := 5) (by decide +kernel : decode k_R_parting.2.1 74 = .ok (.iload 5, 2)) rfl) ?_
        obtain ⟨g3, h⟩ := gd_some h
        have c4 := (RC_77 hL).1
        have c5 := (RC_77 hL).2
        obtain ⟨m6, hm6, h⟩ := vb_some h
        have hL : RL m6 := by rw [hm6]; exact hL
        refine ai (p_iast (pc := 76) hm6 (by decide +kernel : decode k_R_parting.2.1 76 = .ok (.iastore, 1)) c4 c5 g3) ?_
        obtain ⟨v7, hv7, h⟩ := vb_some h
        refine ai (e_iinc (pc := 77) (k := 4) hv7 ic_1 (by decide +kernel : decode k_R_parting.2.1 77 = .ok (.iinc 4 (1), 3)) rfl (by decide) rfl) ?_
        exact (ai (r_sub [1, 2, 3, 4, 0, 5] rfl) (R_parting_80_run (fun _ _ _ _ _ _ _ _ q1 q3 => ih q1 q3) hL h))
set_option maxRecDepth 100000 in
set_option maxHeartbeats 4000000 in
theorem R_parting_run {x1 : Int32} {x2 : Int32} {x3 : Int32} {m m' : Mem} {r : Int32} (hL : RL m) (h : R_parting x1 x2 x3 m = some (r, m')) : Run k_R_parting 0 [(0, .ref 0), (1, .int x1), (2, .int x2), (3, .int x3)] [] m (some (.int r)) m' ∧ RL m' := by
  unfold R_parting at h
  refine ai (r_iload_n (pc := 0) (k := 1) (by decide +kernel : decode k_R_parting.2.1 0 = .ok (.iload_n 1, 1)) rfl rfl) ?_
  refine ai (r_iconst (pc := 1) (by decide +kernel : decode k_R_parting.2.1 1 = .ok (.iconst 1, 1)) ic_1) ?_
  refine ai (r_ldc_w (pc := 2) (by decide +kernel : decode k_R_parting.2.1 2 = .ok (.ldc_w 634, 3)) lk_12_634) ?_
  obtain ⟨r1, hr1, h⟩ := bp_some h
  refine ai (q_callS (pc := 5) (As := [.int x1, .int 1, .int 65535]) (st := []) (st2 := [.int r1]) rfl rfl (by decide +kernel : decode k_R_parting.2.1 5 = .ok (.invokestatic 433, 3)) lc_12_433 mo_R_in ⟨Nat.le_of_ble_eq_true rfl, Nat.le_of_ble_eq_true rfl⟩ (Nat.le_of_ble_eq_true rfl) (Nat.le_of_ble_eq_true rfl) (R_in_run hr1)) ?_
  rcases ite_some h with ⟨c2, h⟩ | ⟨c2, h⟩
  · refine ai (r_if_eq_t (pc := 8) (tgt := 41) (by decide +kernel : decode k_R_parting.2.1 8 = .ok (.ifCond .eq (33), 3)) (by decide) c2) ?_
    refine ai (r_iconst (pc := 41) (by decide +kernel : decode k_R_parting.2.1 41 = .ok (.iconst (-1), 1)) ic_m1) ?_
    cases h
    exact ⟨r_iret rfl (by decide +kernel : decode k_R_parting.2.1 42 = .ok (.ireturn, 1)), hL⟩
  · refine ai (r_if_eq_f (pc := 8) 41 (by decide +kernel : decode k_R_parting.2.1 8 = .ok (.ifCond .eq (33), 3)) (by decide) c2) ?_
    refine ai (r_iload_n (pc := 11) (k := 1) (by decide +kernel : decode k_R_parting.2.1 11 = .ok (.iload_n 1, 1)) rfl rfl) ?_
    obtain ⟨r3, hr3, h⟩ := bp_some h
    refine ai (q_callS (pc := 12) (As := [.int x1]) (st := []) (st2 := [.int r3]) rfl rfl (by decide +kernel : decode k_R_parting.2.1 12 = .ok (.invokestatic 604, 3)) lc_12_604 mo_R_bits ⟨Nat.le_of_ble_eq_true rfl, Nat.le_of_ble_eq_true rfl⟩ (Nat.le_of_ble_eq_true rfl) (Nat.le_of_ble_eq_true rfl) (R_bits_run hr3)) ?_
    refine ai (r_bipush (pc := 15) (by decide +kernel : decode k_R_parting.2.1 15 = .ok (.bipush (7), 2)) (by decide : _ = (7 : Int32))) ?_
    rcases ite_some h with ⟨c4, h⟩ | ⟨c4, h⟩
    · refine ai (r_icmp_gt_t (pc := 17) (tgt := 41) (by decide +kernel : decode k_R_parting.2.1 17 = .ok (.if_icmp .gt (24), 3)) (by decide) c4) ?_
      refine ai (r_iconst (pc := 41) (by decide +kernel : decode k_R_parting.2.1 41 = .ok (.iconst (-1), 1)) ic_m1) ?_
      cases h
      exact ⟨r_iret rfl (by decide +kernel : decode k_R_parting.2.1 42 = .ok (.ireturn, 1)), hL⟩
    · refine ai (r_icmp_gt_f (pc := 17) 41 (by decide +kernel : decode k_R_parting.2.1 17 = .ok (.if_icmp .gt (24), 3)) (by decide) c4) ?_
      refine ai (r_iload_n (pc := 20) (k := 2) (by decide +kernel : decode k_R_parting.2.1 20 = .ok (.iload_n 2, 1)) rfl rfl) ?_
      refine ai (r_iconst (pc := 21) (by decide +kernel : decode k_R_parting.2.1 21 = .ok (.iconst 1, 1)) ic_1) ?_
      refine ai (r_bipush (pc := 22) (by decide +kernel : decode k_R_parting.2.1 22 = .ok (.bipush (7), 2)) (by decide : _ = (7 : Int32))) ?_
      obtain ⟨r5, hr5, h⟩ := bp_some h
      refine ai (q_callS (pc := 24) (As := [.int x2, .int 1, .int 7]) (st := []) (st2 := [.int r5]) rfl rfl (by decide +kernel : decode k_R_parting.2.1 24 = .ok (.invokestatic 433, 3)) lc_12_433 mo_R_in ⟨Nat.le_of_ble_eq_true rfl, Nat.le_of_ble_eq_true rfl⟩ (Nat.le_of_ble_eq_true rfl) (Nat.le_of_ble_eq_true rfl) (R_in_run hr5)) ?_
      rcases ite_some h with ⟨c6, h⟩ | ⟨c6, h⟩
      · refine ai (r_if_eq_t (pc := 27) (tgt := 41) (by decide +kernel : decode k_R_parting.2.1 27 = .ok (.ifCond .eq (14), 3)) (by decide) c6) ?_
        refine ai (r_iconst (pc := 41) (by decide +kernel : decode k_R_parting.2.1 41 = .ok (.iconst (-1), 1)) ic_m1) ?_
        cases h
        exact ⟨r_iret rfl (by decide +kernel : decode k_R_parting.2.1 42 = .ok (.ireturn, 1)), hL⟩
      · refine ai (r_if_eq_f (pc := 27) 41 (by decide +kernel : decode k_R_parting.2.1 27 = .ok (.ifCond .eq (14), 3)) (by decide) c6) ?_
        refine ai (r_iload_n (pc := 30) (k := 3) (by decide +kernel : decode k_R_parting.2.1 30 = .ok (.iload_n 3, 1)) rfl rfl) ?_
        refine ai (r_iconst (pc := 31) (by decide +kernel : decode k_R_parting.2.1 31 = .ok (.iconst 0, 1)) ic_0) ?_
        refine ai (r_sipush (pc := 32) (by decide +kernel : decode k_R_parting.2.1 32 = .ok (.sipush (999), 3)) (by decide : _ = (999 : Int32))) ?_
        obtain ⟨r7, hr7, h⟩ := bp_some h
        refine ai (q_callS (pc := 35) (As := [.int x3, .int 0, .int 999]) (st := []) (st2 := [.int r7]) rfl rfl (by decide +kernel : decode k_R_parting.2.1 35 = .ok (.invokestatic 433, 3)) lc_12_433 mo_R_in ⟨Nat.le_of_ble_eq_true rfl, Nat.le_of_ble_eq_true rfl⟩ (Nat.le_of_ble_eq_true rfl) (Nat.le_of_ble_eq_true rfl) (R_in_run hr7)) ?_
        rcases ite_some h with ⟨c8, h⟩ | ⟨c8, h⟩
        · refine ai (r_if_ne_f (pc := 38) 43 (by decide +kernel : decode k_R_parting.2.1 38 = .ok (.ifCond .ne (5), 3)) (by decide) c8) ?_
          refine ai (r_iconst (pc := 41) (by decide +kernel : decode k_R_parting.2.1 41 = .ok (.iconst (-1), 1)) ic_m1) ?_
          cases h
          exact ⟨r_iret rfl (by decide +kernel : decode k_R_parting.2.1 42 = .ok (.ireturn, 1)), hL⟩
        · refine ai (r_if_ne_t (pc := 38) (tgt := 43) (by decide +kernel : decode k_R_parting.2.1 38 = .ok (.ifCond .ne (5), 3)) (by decide) c8) ?_
          refine ai (r_iconst (pc := 43) (by decide +kernel : decode k_R_parting.2.1 43 = .ok (.iconst 0, 1)) ic_0) ?_
          refine ai (e_istore (pc := 44) rfl (by decide +kernel : decode k_R_parting.2.1 44 = .ok (.istore 4, 2)) (by decide) rfl) ?_
          refine ai (r_iconst (pc := 46) (by decide +kernel : decode k_R_parting.2.1 46 = .ok (.iconst 0, 1)) ic_0) ?_
          refine ai (e_istore (pc := 47) rfl (by decide +kernel : decode k_R_parting.2.1 47 = .ok (.istore 5, 2)) (by decide) rfl) ?_
          exact (ai (r_sub [2, 3, 4, 5, 1, 0] rfl) (R_parting_49_run hL h))
set_option maxRecDepth 100000 in
set_option maxHeartbeats 4000000 in
theorem R_part_run {x1 : Int32} {x2 : Int32} {m m' : Mem} {r : Int32} (hL : RL m) (h : R_part x1 x2 m = some (r, m')) : Run k_R_part 0 [(0, .ref 0), (1, .int x1), (2, .int x2)] [] m (some (.int r)) m' ∧ RL m' := by
  unfold R_part at h
  refine ai (p_aload_n (pc := 0) (k := 0) (by decide +kernel : decode k_R_part.2.1 0 = .ok (.aload_n 0, 1)) rfl rfl) ?_
  refine ai (r_getI (pc := 1) (by decide +kernel : decode k_R_part.2.1 1 = .ok (.getfield 641, 3)) lg_12_641 (by decide) (RC_0 hL).1) ?_
  rcases ite_some h with ⟨c1, h⟩ | ⟨c1, h⟩
  · refine ai (r_if_eq_t (pc := 4) (tgt := 36) (by decide +kernel : decode k_R_part.2.1 4 = .ok (.ifCond .eq (32), 3)) (by decide) c1) ?_
    refine ai (r_iconst (pc := 36) (by decide +kernel : decode k_R_part.2.1 36 = .ok (.iconst (-1), 1)) ic_m1) ?_
    cases h
    exact ⟨r_iret rfl (by decide +kernel : decode k_R_part.2.1 37 = .ok (.ireturn, 1)), hL⟩
  · refine ai (r_if_eq_f (pc := 4) 36 (by decide +kernel : decode k_R_part.2.1 4 = .ok (.ifCond .eq (32), 3)) (by decide) c1) ?_
    refine ai (r_iload_n (pc := 7) (k := 1) (by decide +kernel : decode k_R_part.2.1 7 = .ok (.iload_n 1, 1)) rfl rfl) ?_
    refine ai (r_iconst (pc := 8) (by decide +kernel : decode k_R_part.2.1 8 = .ok (.iconst 0, 1)) ic_0) ?_
    refine ai (r_bipush (pc := 9) (by decide +kernel : decode k_R_part.2.1 9 = .ok (.bipush (15), 2)) (by decide : _ = (15 : Int32))) ?_
    obtain ⟨r2, hr2, h⟩ := bp_some h
    refine ai (q_callS (pc := 11) (As := [.int x1, .int 0, .int 15]) (st := []) (st2 := [.int r2]) rfl rfl (by decide +kernel : decode k_R_part.2.1 11 = .ok (.invokestatic 433, 3)) lc_12_433 mo_R_in ⟨Nat.le_of_ble_eq_true rfl, Nat.le_of_ble_eq_true rfl⟩ (Nat.le_of_ble_eq_true rfl) (Nat.le_of_ble_eq_true rfl) (R_in_run hr2)) ?_
    rcases ite_some h with ⟨c3, h⟩ | ⟨c3, h⟩
    · refine ai (r_if_eq_t (pc := 14) (tgt := 36) (by decide +kernel : decode k_R_part.2.1 14 = .ok (.ifCond .eq (22), 3)) (by decide) c3) ?_
      refine ai (r_iconst (pc := 36) (by decide +kernel : decode k_R_part.2.1 36 = .ok (.iconst (-1), 1)) ic_m1) ?_
      cases h
      exact ⟨r_iret rfl (by decide +kernel : decode k_R_part.2.1 37 = .ok (.ireturn, 1)), hL⟩
    · refine ai (r_if_eq_f (pc := 14) 36 (by decide +kernel : decode k_R_part.2.1 14 = .ok (.ifCond .eq (22), 3)) (by decide) c3) ?_
      refine ai (p_aload_n (pc := 17) (k := 0) (by decide +kernel : decode k_R_part.2.1 17 = .ok (.aload_n 0, 1)) rfl rfl) ?_
      refine ai (p_getr (pc := 18) (RR_1649_0 hL) (by decide +kernel : decode k_R_part.2.1 18 = .ok (.getfield 251, 3)) lg_12_251 (RC_0 hL).1) ?_
      refine ai (r_iload_n (pc := 21) (k := 1) (by decide +kernel : decode k_R_part.2.1 21 = .ok (.iload_n 1, 1)) rfl rfl) ?_
      obtain ⟨g4, h⟩ := gd_some h
      refine ai (p_iald (pc := 22) (by decide +kernel : decode k_R_part.2.1 22 = .ok (.iaload, 1)) (RC_75 hL).1 (RC_75 hL).2 g4) ?_
      refine ai (r_iconst (pc := 23) (by decide +kernel : decode k_R_part.2.1 23 = .ok (.iconst (-1), 1)) ic_m1) ?_
      rcases ite_some h with ⟨c5, h⟩ | ⟨c5, h⟩
      · refine ai (r_icmp_eq_t (pc := 24) (tgt := 36) (by decide +kernel : decode k_R_part.2.1 24 = .ok (.if_icmp .eq (12), 3)) (by decide) c5) ?_
        refine ai (r_iconst (pc := 36) (by decide +kernel : decode k_R_part.2.1 36 = .ok (.iconst (-1), 1)) ic_m1) ?_
        cases h
        exact ⟨r_iret rfl (by decide +kernel : decode k_R_part.2.1 37 = .ok (.ireturn, 1)), hL⟩
      · refine ai (r_icmp_eq_f (pc := 24) 36 (by decide +kernel : decode k_R_part.2.1 24 = .ok (.if_icmp .eq (12), 3)) (by decide) c5) ?_
        refine ai (r_iload_n (pc := 27) (k := 2) (by decide +kernel : decode k_R_part.2.1 27 = .ok (.iload_n 2, 1)) rfl rfl) ?_
        refine ai (r_iconst (pc := 28) (by decide +kernel : decode k_R_part.2.1 28 = .ok (.iconst 0, 1)) ic_0) ?_
        refine ai (r_iconst (pc := 29) (by decide +kernel : decode k_R_part.2.1 29 = .ok (.iconst 1, 1)) ic_1) ?_
        obtain ⟨r6, hr6, h⟩ := bp_some h
        refine ai (q_callS (pc := 30) (As := [.int x2, .int 0, .int 1]) (st := []) (st2 := [.int r6]) rfl rfl (by decide +kernel : decode k_R_part.2.1 30 = .ok (.invokestatic 433, 3)) lc_12_433 mo_R_in ⟨Nat.le_of_ble_eq_true rfl, Nat.le_of_ble_eq_true rfl⟩ (Nat.le_of_ble_eq_true rfl) (Nat.le_of_ble_eq_true rfl) (R_in_run hr6)) ?_
        rcases ite_some h with ⟨c7, h⟩ | ⟨c7, h⟩
        · refine ai (r_if_ne_f (pc := 33) 38 (by decide +kernel : decode k_R_part.2.1 33 = .ok (.ifCond .ne (5), 3)) (by decide) c7) ?_
          refine ai (r_iconst (pc := 36) (by decide +kernel : decode k_R_part.2.1 36 = .ok (.iconst (-1), 1)) ic_m1) ?_
          cases h
          exact ⟨r_iret rfl (by decide +kernel : decode k_R_part.2.1 37 = .ok (.ireturn, 1)), hL⟩
        · refine ai (r_if_ne_t (pc := 33) (tgt := 38) (by decide +kernel : decode k_R_part.2.1 33 = .ok (.ifCond .ne (5), 3)) (by decide) c7) ?_
          refine ai (r_iload_n (pc := 38) (k := 2) (by decide +kernel : decode k_R_part.2.1 38 = .ok (.iload_n 2, 1)) rfl rfl) ?_
          rcases ite_some h with ⟨c8, h⟩ | ⟨c8, h⟩
          · refine ai (r_if_ne_f (pc := 39) 51 (by decide +kernel : decode k_R_part.2.1 39 = .ok (.ifCond .ne (12), 3)) (by decide) c8) ?_
            refine ai (p_aload_n (pc := 42) (k := 0) (by decide +kernel : decode k_R_part.2.1 42 = .ok (.aload_n 0, 1)) rfl rfl) ?_
            refine ai (p_getr (pc := 43) (RR_1649_0 hL) (by decide +kernel : decode k_R_part.2.1 43 = .ok (.getfield 251, 3)) lg_12_251 (RC_0 hL).1) ?_
            refine ai (r_iload_n (pc := 46) (k := 1) (by decide +kernel : decode k_R_part.2.1 46 = .ok (.iload_n 1, 1)) rfl rfl) ?_
            obtain ⟨g9, h⟩ := gd_some h
            refine ai (p_iald (pc := 47) (by decide +kernel : decode k_R_part.2.1 47 = .ok (.iaload, 1)) (RC_75 hL).1 (RC_75 hL).2 g9) ?_
            refine ai (r_goto (pc := 48) (tgt := 57) (by decide +kernel : decode k_R_part.2.1 48 = .ok (.goto (9), 3)) (by decide)) ?_
            cases h
            exact ⟨r_iret rfl (by decide +kernel : decode k_R_part.2.1 57 = .ok (.ireturn, 1)), hL⟩
          · refine ai (r_if_ne_t (pc := 39) (tgt := 51) (by decide +kernel : decode k_R_part.2.1 39 = .ok (.ifCond .ne (12), 3)) (by decide) c8) ?_
            refine ai (p_aload_n (pc := 51) (k := 0) (by decide +kernel : decode k_R_part.2.1 51 = .ok (.aload_n 0, 1)) rfl rfl) ?_
            refine ai (p_getr (pc := 52) (RR_1650_0 hL) (by decide +kernel : decode k_R_part.2.1 52 = .ok (.getfield 254, 3)) lg_12_254 (RC_0 hL).1) ?_
            refine ai (r_iload_n (pc := 55) (k := 1) (by decide +kernel : decode k_R_part.2.1 55 = .ok (.iload_n 1, 1)) rfl rfl) ?_
            obtain ⟨g10, h⟩ := gd_some h
            refine ai (p_iald (pc := 56) (by decide +kernel : decode k_R_part.2.1 56 = .ok (.iaload, 1)) (RC_76 hL).1 (RC_76 hL).2 g10) ?_
            cases h
            exact ⟨r_iret rfl (by decide +kernel : decode k_R_part.2.1 57 = .ok (.ireturn, 1)), hL⟩
set_option maxRecDepth 100000 in
set_option maxHeartbeats 4000000 in
theorem R_count_run {x1 : Int32} {m m' : Mem} {r : Int32} (hL : RL m) (h : R_count x1 m = some (r, m')) : Run k_R_count 0 [(0, .ref 0), (1, .int x1)] [] m (some (.int r)) m' ∧ RL m' := by
  unfold R_count at h
  refine ai (r_iload_n (pc := 0) (k := 1) (by decide +kernel : decode k_R_count.2.1 0 = .ok (.iload_n 1, 1)) rfl rfl) ?_
  rcases ite_some h with ⟨c1, h⟩ | ⟨c1, h⟩
  · refine ai (r_tableIn (pc := 1) (tgt := 44) (off := 43) (by decide +kernel : decode k_R_count.2.1 1 = .ok (.tableswitch (78) (0) (6) #[43, 48, 53, 58, 63, 68, 73], 43)) (by rw [c1]; decide) (by rw [c1]; decide) (by rw [c1]; decide +kernel) (by decide)) ?_
    refine ai (p_aload_n (pc := 44) (k := 0) (by decide +kernel : decode k_R_count.2.1 44 = .ok (.aload_n 0, 1)) rfl rfl) ?_
    refine ai (r_getI (pc := 45) (by decide +kernel : decode k_R_count.2.1 45 = .ok (.getfield 421, 3)) lg_12_421 (by decide) (RC_0 hL).1) ?_
    cases h
    exact ⟨r_iret rfl (by decide +kernel : decode k_R_count.2.1 48 = .ok (.ireturn, 1)), hL⟩
  · skip
    rcases ite_some h with ⟨c2, h⟩ | ⟨c2, h⟩
    · refine ai (r_tableIn (pc := 1) (tgt := 49) (off := 48) (by decide +kernel : decode k_R_count.2.1 1 = .ok (.tableswitch (78) (0) (6) #[43, 48, 53, 58, 63, 68, 73], 43)) (by rw [c2]; decide) (by rw [c2]; decide) (by rw [c2]; decide +kernel) (by decide)) ?_
      refine ai (p_aload_n (pc := 49) (k := 0) (by decide +kernel : decode k_R_count.2.1 49 = .ok (.aload_n 0, 1)) rfl rfl) ?_
      refine ai (r_getI (pc := 50) (by decide +kernel : decode k_R_count.2.1 50 = .ok (.getfield 424, 3)) lg_12_424 (by decide) (RC_0 hL).1) ?_
      cases h
      exact ⟨r_iret rfl (by decide +kernel : decode k_R_count.2.1 53 = .ok (.ireturn, 1)), hL⟩
    · skip
      rcases ite_some h with ⟨c3, h⟩ | ⟨c3, h⟩
      · refine ai (r_tableIn (pc := 1) (tgt := 54) (off := 53) (by decide +kernel : decode k_R_count.2.1 1 = .ok (.tableswitch (78) (0) (6) #[43, 48, 53, 58, 63, 68, 73], 43)) (by rw [c3]; decide) (by rw [c3]; decide) (by rw [c3]; decide +kernel) (by decide)) ?_
        refine ai (p_aload_n (pc := 54) (k := 0) (by decide +kernel : decode k_R_count.2.1 54 = .ok (.aload_n 0, 1)) rfl rfl) ?_
        refine ai (r_getI (pc := 55) (by decide +kernel : decode k_R_count.2.1 55 = .ok (.getfield 427, 3)) lg_12_427 (by decide) (RC_0 hL).1) ?_
        cases h
        exact ⟨r_iret rfl (by decide +kernel : decode k_R_count.2.1 58 = .ok (.ireturn, 1)), hL⟩
      · skip
        rcases ite_some h with ⟨c4, h⟩ | ⟨c4, h⟩
        · refine ai (r_tableIn (pc := 1) (tgt := 59) (off := 58) (by decide +kernel : decode k_R_count.2.1 1 = .ok (.tableswitch (78) (0) (6) #[43, 48, 53, 58, 63, 68, 73], 43)) (by rw [c4]; decide) (by rw [c4]; decide) (by rw [c4]; decide +kernel) (by decide)) ?_
          refine ai (p_aload_n (pc := 59) (k := 0) (by decide +kernel : decode k_R_count.2.1 59 = .ok (.aload_n 0, 1)) rfl rfl) ?_
          refine ai (r_getI (pc := 60) (by decide +kernel : decode k_R_count.2.1 60 = .ok (.getfield 338, 3)) lg_12_338 (by decide) (RC_0 hL).1) ?_
          cases h
          exact ⟨r_iret rfl (by decide +kernel : decode k_R_count.2.1 63 = .ok (.ireturn, 1)), hL⟩
        · skip
          rcases ite_some h with ⟨c5, h⟩ | ⟨c5, h⟩
          · refine ai (r_tableIn (pc := 1) (tgt := 64) (off := 63) (by decide +kernel : decode k_R_count.2.1 1 = .ok (.tableswitch (78) (0) (6) #[43, 48, 53, 58, 63, 68, 73], 43)) (by rw [c5]; decide) (by rw [c5]; decide) (by rw [c5]; decide +kernel) (by decide)) ?_
            refine ai (p_aload_n (pc := 64) (k := 0) (by decide +kernel : decode k_R_count.2.1 64 = .ok (.aload_n 0, 1)) rfl rfl) ?_
            refine ai (r_getI (pc := 65) (by decide +kernel : decode k_R_count.2.1 65 = .ok (.getfield 341, 3)) lg_12_341 (by decide) (RC_0 hL).1) ?_
            cases h
            exact ⟨r_iret rfl (by decide +kernel : decode k_R_count.2.1 68 = .ok (.ireturn, 1)), hL⟩
          · skip
            rcases ite_some h with ⟨c6, h⟩ | ⟨c6, h⟩
            · refine ai (r_tableIn (pc := 1) (tgt := 69) (off := 68) (by decide +kernel : decode k_R_count.2.1 1 = .ok (.tableswitch (78) (0) (6) #[43, 48, 53, 58, 63, 68, 73], 43)) (by rw [c6]; decide) (by rw [c6]; decide) (by rw [c6]; decide +kernel) (by decide)) ?_
              refine ai (p_aload_n (pc := 69) (k := 0) (by decide +kernel : decode k_R_count.2.1 69 = .ok (.aload_n 0, 1)) rfl rfl) ?_
              refine ai (r_getI (pc := 70) (by decide +kernel : decode k_R_count.2.1 70 = .ok (.getfield 359, 3)) lg_12_359 (by decide) (RC_0 hL).1) ?_
              cases h
              exact ⟨r_iret rfl (by decide +kernel : decode k_R_count.2.1 73 = .ok (.ireturn, 1)), hL⟩
            · skip
              rcases ite_some h with ⟨c7, h⟩ | ⟨c7, h⟩
              · refine ai (r_tableIn (pc := 1) (tgt := 74) (off := 73) (by decide +kernel : decode k_R_count.2.1 1 = .ok (.tableswitch (78) (0) (6) #[43, 48, 53, 58, 63, 68, 73], 43)) (by rw [c7]; decide) (by rw [c7]; decide) (by rw [c7]; decide +kernel) (by decide)) ?_
                refine ai (p_aload_n (pc := 74) (k := 0) (by decide +kernel : decode k_R_count.2.1 74 = .ok (.aload_n 0, 1)) rfl rfl) ?_
                refine ai (r_getI (pc := 75) (by decide +kernel : decode k_R_count.2.1 75 = .ok (.getfield 276, 3)) lg_12_276 (by decide) (RC_0 hL).1) ?_
                cases h
                exact ⟨r_iret rfl (by decide +kernel : decode k_R_count.2.1 78 = .ok (.ireturn, 1)), hL⟩
              · skip
                have ho := tab_out (x := x1) 0 7 (by decide) (by decide) (fun k hk => by
                  rcases (show k = 0 ∨ k = 1 ∨ k = 2 ∨ k = 3 ∨ k = 4 ∨ k = 5 ∨ k = 6 by omega) with rfl | rfl | rfl | rfl | rfl | rfl | rfl
                  · exact fun z => c1 (z.trans (by decide))
                  · exact fun z => c2 (z.trans (by decide))
                  · exact fun z => c3 (z.trans (by decide))
                  · exact fun z => c4 (z.trans (by decide))
                  · exact fun z => c5 (z.trans (by decide))
                  · exact fun z => c6 (z.trans (by decide))
                  · exact fun z => c7 (z.trans (by decide)))
                refine ai (r_tableOut (pc := 1) (tgt := 79) (by decide +kernel : decode k_R_count.2.1 1 = .ok (.tableswitch (78) (0) (6) #[43, 48, 53, 58, 63, 68, 73], 43)) (by simpa using ho) (by decide)) ?_
                refine ai (r_iconst (pc := 79) (by decide +kernel : decode k_R_count.2.1 79 = .ok (.iconst (-1), 1)) ic_m1) ?_
                cases h
                exact ⟨r_iret rfl (by decide +kernel : decode k_R_count.2.1 80 = .ok (.ireturn, 1)), hL⟩
