/-! written by gen/emit.py -/
set_option maxRecDepth 100000 in
set_option maxHeartbeats 4000000 in
theorem J_fill_5_run {n : Nat} {x0 : Option Nat} {x1 : Int32} {x2 : Int32} {x3 : Int32} {m m' : Mem} {r : Unit} (h : J_fill_5 n x0 x1 x2 x3 m = some (r, m')) : Run k_J_fill 5 [(0, va_rf x0), (1, .int x1), (2, .int x2), (3, .int x3)] [] m none m' ∧ Kp m m' := by
  induction n generalizing x0 x1 x2 x3 m r m' with
  | zero => exact absurd h (by simp [J_fill_5])
  | succ n ih =>
    rw [J_fill_5.eq_2] at h
    have hK : Kp m m := ⟨rfl, rfl, rfl, rfl, rfl⟩
    refine ai (r_iload_n (pc := 5) (k := 2) (by decide +kernel : decode k_J_fill.2.1 5 = .ok (.iload_n 2, 1)) rfl rfl) ?_
    refine ai (r_iload_n (pc := 6) (k := 3) (by decide +kernel : decode k_J_fill.2.1 6 = .ok (.iload_n 3, 1)) rfl rfl) ?_
    rcases ite_some h with ⟨c1, h⟩ | ⟨c1, h⟩
    · refine ai (r_icmp_ge_t (pc := 7) (tgt := 20) (by decide +kernel : decode k_J_fill.2.1 7 = .ok (.if_icmp .ge (13), 3)) (by decide) c1) ?_
      cases h
      exact ⟨r_vret rfl (by decide +kernel : decode k_J_fill.2.1 20 = .ok (.return_, 1)), hK⟩
    · refine ai (r_icmp_ge_f (pc := 7) 20 (by decide +kernel : decode k_J_fill.2.1 7 = .ok (.if_icmp .ge (13), 3)) (by decide) c1) ?_
      obtain ⟨a2, rfl, h⟩ := gs_some h
      refine ai (p_aload_n (pc := 10) (k := 0) (by decide +kernel : decode k_J_fill.2.1 10 = .ok (.aload_n 0, 1)) rfl rfl) ?_
      refine ai (r_iload_n (pc := 11) (k := 2) (by decide +kernel : decode k_J_fill.2.1 11 = .ok (.iload_n 2, 1)) rfl rfl) ?_
      refine ai (r_iload_n (pc := 12) (k := 1) (by decide +kernel : decode k_J_fill.2.1 12 = .ok (.iload_n 1, 1)) rfl rfl) ?_
      obtain ⟨t3, h⟩ := gt_some h
      obtain ⟨g4, h⟩ := gd_some h
      obtain ⟨m5, hm5, h⟩ := vb_some h
      have hK := kp_step hK (show Kp _ m5 by rw [hm5]; exact ⟨rfl, rfl, rfl, rfl, rfl⟩)
      have t6 : mT m5 a2 = 32 := by rw [hm5]; exact t3
      refine ai (p_iast (pc := 13) hm5 (by decide +kernel : decode k_J_fill.2.1 13 = .ok (.iastore, 1)) t3 rfl g4) ?_
      obtain ⟨v7, hv7, h⟩ := vb_some h
      refine ai (e_iinc (pc := 14) (k := 2) hv7 ic_1 (by decide +kernel : decode k_J_fill.2.1 14 = .ok (.iinc 2 (1), 3)) rfl (by decide) rfl) ?_
      refine ai (r_goto (pc := 17) (tgt := 5) (by decide +kernel : decode k_J_fill.2.1 17 = .ok (.goto (-12), 3)) (by decide)) ?_
      exact kp_on hK (ai (r_sub [1, 2, 0, 3] rfl) (ih h))
set_option maxRecDepth 100000 in
set_option maxHeartbeats 4000000 in
theorem J_fill_run {x0 : Option Nat} {x1 : Int32} {m m' : Mem} {r : Unit} (h : J_fill x0 x1 m = some (r, m')) : Run k_J_fill 0 [(0, va_rf x0), (1, .int x1)] [] m none m' ∧ Kp m m' := by
  unfold J_fill at h
  have hK : Kp m m := ⟨rfl, rfl, rfl, rfl, rfl⟩
  refine ai (r_iconst (pc := 0) (by decide +kernel : decode k_J_fill.2.1 0 = .ok (.iconst 0, 1)) ic_0) ?_
  refine ai (e_istore_n (pc := 1) rfl (by decide +kernel : decode k_J_fill.2.1 1 = .ok (.istore_n 2, 1)) rfl (by decide) rfl) ?_
  obtain ⟨a1, rfl, h⟩ := gs_some h
  refine ai (p_aload_n (pc := 2) (k := 1) (by decide +kernel : decode k_J_fill.2.1 2 = .ok (.aload_n 0, 1)) rfl rfl) ?_
  obtain ⟨t2, h⟩ := gt_some h
  refine ai (p_alen (pc := 3) (by decide +kernel : decode k_J_fill.2.1 3 = .ok (.arraylength, 1)) (by rw [t2]; decide) rfl rfl) ?_
  obtain ⟨v3, hv3, h⟩ := vb_some h
  refine ai (e_istore_n (pc := 4) hv3 (by decide +kernel : decode k_J_fill.2.1 4 = .ok (.istore_n 3, 1)) rfl (by decide) rfl) ?_
  exact kp_on hK (ai (r_sub [2, 3, 1, 0] rfl) (J_fill_5_run h))
set_option maxRecDepth 100000 in
set_option maxHeartbeats 4000000 in
theorem P_Lexer_withLetter_run {x0 : Int64} {x2 : Int32} {m : Mem} {r : Int64} (h : P_Lexer_withLetter x0 x2 = some r) : Run k_P_Lexer_withLetter 0 [(0, .long x0), (2, .int x2)] [] m (some (.long r)) m := by
  unfold P_Lexer_withLetter at h
  refine (r_lload_n (pc := 0) (k := 0) (by decide +kernel : decode k_P_Lexer_withLetter.2.1 0 = .ok (.lload_n 0, 1)) rfl rfl) ?_
  refine (r_ldc2_w (pc := 1) (by decide +kernel : decode k_P_Lexer_withLetter.2.1 1 = .ok (.ldc2_w 54, 3)) lk_5_54) ?_
  refine (r_lmul (pc := 4) (by decide +kernel : decode k_P_Lexer_withLetter.2.1 4 = .ok (.lmul, 1))) ?_
  refine (r_iload_n (pc := 5) (k := 1) (by decide +kernel : decode k_P_Lexer_withLetter.2.1 5 = .ok (.iload_n 2, 1)) rfl rfl) ?_
  refine (r_bipush (pc := 6) (by decide +kernel : decode k_P_Lexer_withLetter.2.1 6 = .ok (.bipush (97), 2)) (by decide : _ = (97 : Int32))) ?_
  refine (r_isub (pc := 8) (by decide +kernel : decode k_P_Lexer_withLetter.2.1 8 = .ok (.isub, 1))) ?_
  refine (r_iconst (pc := 9) (by decide +kernel : decode k_P_Lexer_withLetter.2.1 9 = .ok (.iconst 1, 1)) ic_1) ?_
  refine (r_iadd (pc := 10) (by decide +kernel : decode k_P_Lexer_withLetter.2.1 10 = .ok (.iadd, 1))) ?_
  refine (r_i2l (pc := 11) (by decide +kernel : decode k_P_Lexer_withLetter.2.1 11 = .ok (.i2l, 1))) ?_
  refine (r_ladd (pc := 12) (by decide +kernel : decode k_P_Lexer_withLetter.2.1 12 = .ok (.ladd, 1))) ?_
  cases h
  exact r_lret rfl (by decide +kernel : decode k_P_Lexer_withLetter.2.1 13 = .ok (.lreturn, 1))
set_option maxRecDepth 100000 in
set_option maxHeartbeats 4000000 in
theorem P_Lexer_isBlank_run {x0 : Int32} {m : Mem} {r : Int32} (h : P_Lexer_isBlank x0 = some r) : Run k_P_Lexer_isBlank 0 [(0, .int x0)] [] m (some (.int r)) m := by
  unfold P_Lexer_isBlank at h
  refine (r_iload_n (pc := 0) (k := 0) (by decide +kernel : decode k_P_Lexer_isBlank.2.1 0 = .ok (.iload_n 0, 1)) rfl rfl) ?_
  refine (r_bipush (pc := 1) (by decide +kernel : decode k_P_Lexer_isBlank.2.1 1 = .ok (.bipush (32), 2)) (by decide : _ = (32 : Int32))) ?_
  rcases ite_some h with ⟨c1, h⟩ | ⟨c1, h⟩
  · refine (r_icmp_eq_t (pc := 3) (tgt := 24) (by decide +kernel : decode k_P_Lexer_isBlank.2.1 3 = .ok (.if_icmp .eq (21), 3)) (by decide) c1) ?_
    refine (r_iconst (pc := 24) (by decide +kernel : decode k_P_Lexer_isBlank.2.1 24 = .ok (.iconst 1, 1)) ic_1) ?_
    refine (r_goto (pc := 25) (tgt := 29) (by decide +kernel : decode k_P_Lexer_isBlank.2.1 25 = .ok (.goto (4), 3)) (by decide)) ?_
    cases h
    exact r_zret (by decide) rfl (by decide +kernel : decode k_P_Lexer_isBlank.2.1 29 = .ok (.ireturn, 1))
  · refine (r_icmp_eq_f (pc := 3) 24 (by decide +kernel : decode k_P_Lexer_isBlank.2.1 3 = .ok (.if_icmp .eq (21), 3)) (by decide) c1) ?_
    refine (r_iload_n (pc := 6) (k := 0) (by decide +kernel : decode k_P_Lexer_isBlank.2.1 6 = .ok (.iload_n 0, 1)) rfl rfl) ?_
    refine (r_bipush (pc := 7) (by decide +kernel : decode k_P_Lexer_isBlank.2.1 7 = .ok (.bipush (9), 2)) (by decide : _ = (9 : Int32))) ?_
    rcases ite_some h with ⟨c2, h⟩ | ⟨c2, h⟩
    · refine (r_icmp_eq_t (pc := 9) (tgt := 24) (by decide +kernel : decode k_P_Lexer_isBlank.2.1 9 = .ok (.if_icmp .eq (15), 3)) (by decide) c2) ?_
      refine (r_iconst (pc := 24) (by decide +kernel : decode k_P_Lexer_isBlank.2.1 24 = .ok (.iconst 1, 1)) ic_1) ?_
      refine (r_goto (pc := 25) (tgt := 29) (by decide +kernel : decode k_P_Lexer_isBlank.2.1 25 = .ok (.goto (4), 3)) (by decide)) ?_
      cases h
      exact r_zret (by decide) rfl (by decide +kernel : decode k_P_Lexer_isBlank.2.1 29 = .ok (.ireturn, 1))
    · refine (r_icmp_eq_f (pc := 9) 24 (by decide +kernel : decode k_P_Lexer_isBlank.2.1 9 = .ok (.if_icmp .eq (15), 3)) (by decide) c2) ?_
      refine (r_iload_n (pc := 12) (k := 0) (by decide +kernel : decode k_P_Lexer_isBlank.2.1 12 = .ok (.iload_n 0, 1)) rfl rfl) ?_
      refine (r_bipush (pc := 13) (by decide +kernel : decode k_P_Lexer_isBlank.2.1 13 = .ok (.bipush (10), 2)) (by decide : _ = (10 : Int32))) ?_
      rcases ite_some h with ⟨c3, h⟩ | ⟨c3, h⟩
      · refine (r_icmp_eq_t (pc := 15) (tgt := 24) (by decide +kernel : decode k_P_Lexer_isBlank.2.1 15 = .ok (.if_icmp .eq (9), 3)) (by decide) c3) ?_
        refine (r_iconst (pc := 24) (by decide +kernel : decode k_P_Lexer_isBlank.2.1 24 = .ok (.iconst 1, 1)) ic_1) ?_
        refine (r_goto (pc := 25) (tgt := 29) (by decide +kernel : decode k_P_Lexer_isBlank.2.1 25 = .ok (.goto (4), 3)) (by decide)) ?_
        cases h
        exact r_zret (by decide) rfl (by decide +kernel : decode k_P_Lexer_isBlank.2.1 29 = .ok (.ireturn, 1))
      · refine (r_icmp_eq_f (pc := 15) 24 (by decide +kernel : decode k_P_Lexer_isBlank.2.1 15 = .ok (.if_icmp .eq (9), 3)) (by decide) c3) ?_
        refine (r_iload_n (pc := 18) (k := 0) (by decide +kernel : decode k_P_Lexer_isBlank.2.1 18 = .ok (.iload_n 0, 1)) rfl rfl) ?_
        refine (r_bipush (pc := 19) (by decide +kernel : decode k_P_Lexer_isBlank.2.1 19 = .ok (.bipush (13), 2)) (by decide : _ = (13 : Int32))) ?_
        rcases ite_some h with ⟨c4, h⟩ | ⟨c4, h⟩
        · refine (r_icmp_ne_f (pc := 21) 28 (by decide +kernel : decode k_P_Lexer_isBlank.2.1 21 = .ok (.if_icmp .ne (7), 3)) (by decide) c4) ?_
          refine (r_iconst (pc := 24) (by decide +kernel : decode k_P_Lexer_isBlank.2.1 24 = .ok (.iconst 1, 1)) ic_1) ?_
          refine (r_goto (pc := 25) (tgt := 29) (by decide +kernel : decode k_P_Lexer_isBlank.2.1 25 = .ok (.goto (4), 3)) (by decide)) ?_
          cases h
          exact r_zret (by decide) rfl (by decide +kernel : decode k_P_Lexer_isBlank.2.1 29 = .ok (.ireturn, 1))
        · refine (r_icmp_ne_t (pc := 21) (tgt := 28) (by decide +kernel : decode k_P_Lexer_isBlank.2.1 21 = .ok (.if_icmp .ne (7), 3)) (by decide) c4) ?_
          refine (r_iconst (pc := 28) (by decide +kernel : decode k_P_Lexer_isBlank.2.1 28 = .ok (.iconst 0, 1)) ic_0) ?_
          cases h
          exact r_zret (by decide) rfl (by decide +kernel : decode k_P_Lexer_isBlank.2.1 29 = .ok (.ireturn, 1))
set_option maxRecDepth 100000 in
set_option maxHeartbeats 4000000 in
theorem P_Lexer_isLetter_run {x0 : Int32} {m : Mem} {r : Int32} (h : P_Lexer_isLetter x0 = some r) : Run k_P_Lexer_isLetter 0 [(0, .int x0)] [] m (some (.int r)) m := by
  unfold P_Lexer_isLetter at h
  refine (r_iload_n (pc := 0) (k := 0) (by decide +kernel : decode k_P_Lexer_isLetter.2.1 0 = .ok (.iload_n 0, 1)) rfl rfl) ?_
  refine (r_bipush (pc := 1) (by decide +kernel : decode k_P_Lexer_isLetter.2.1 1 = .ok (.bipush (97), 2)) (by decide : _ = (97 : Int32))) ?_
  rcases ite_some h with ⟨c1, h⟩ | ⟨c1, h⟩
  · refine (r_icmp_lt_t (pc := 3) (tgt := 16) (by decide +kernel : decode k_P_Lexer_isLetter.2.1 3 = .ok (.if_icmp .lt (13), 3)) (by decide) c1) ?_
    refine (r_iconst (pc := 16) (by decide +kernel : decode k_P_Lexer_isLetter.2.1 16 = .ok (.iconst 0, 1)) ic_0) ?_
    cases h
    exact r_zret (by decide) rfl (by decide +kernel : decode k_P_Lexer_isLetter.2.1 17 = .ok (.ireturn, 1))
  · refine (r_icmp_lt_f (pc := 3) 16 (by decide +kernel : decode k_P_Lexer_isLetter.2.1 3 = .ok (.if_icmp .lt (13), 3)) (by decide) c1) ?_
    refine (r_iload_n (pc := 6) (k := 0) (by decide +kernel : decode k_P_Lexer_isLetter.2.1 6 = .ok (.iload_n 0, 1)) rfl rfl) ?_
    refine (r_bipush (pc := 7) (by decide +kernel : decode k_P_Lexer_isLetter.2.1 7 = .ok (.bipush (122), 2)) (by decide : _ = (122 : Int32))) ?_
    rcases ite_some h with ⟨c2, h⟩ | ⟨c2, h⟩
    · refine (r_icmp_gt_t (pc := 9) (tgt := 16) (by decide +kernel : decode k_P_Lexer_isLetter.2.1 9 = .ok (.if_icmp .gt (7), 3)) (by decide) c2) ?_
      refine (r_iconst (pc := 16) (by decide +kernel : decode k_P_Lexer_isLetter.2.1 16 = .ok (.iconst 0, 1)) ic_0) ?_
      cases h
      exact r_zret (by decide) rfl (by decide +kernel : decode k_P_Lexer_isLetter.2.1 17 = .ok (.ireturn, 1))
    · refine (r_icmp_gt_f (pc := 9) 16 (by decide +kernel : decode k_P_Lexer_isLetter.2.1 9 = .ok (.if_icmp .gt (7), 3)) (by decide) c2) ?_
      refine (r_iconst (pc := 12) (by decide +kernel : decode k_P_Lexer_isLetter.2.1 12 = .ok (.iconst 1, 1)) ic_1) ?_
      refine (r_goto (pc := 13) (tgt := 17) (by decide +kernel : decode k_P_Lexer_isLetter.2.1 13 = .ok (.goto (4), 3)) (by decide)) ?_
      cases h
      exact r_zret (by decide) rfl (by decide +kernel : decode k_P_Lexer_isLetter.2.1 17 = .ok (.ireturn, 1))
set_option maxRecDepth 100000 in
set_option maxHeartbeats 4000000 in
theorem P_Lexer_isDigit_run {x0 : Int32} {m : Mem} {r : Int32} (h : P_Lexer_isDigit x0 = some r) : Run k_P_Lexer_isDigit 0 [(0, .int x0)] [] m (some (.int r)) m := by
  unfold P_Lexer_isDigit at h
  refine (r_iload_n (pc := 0) (k := 0) (by decide +kernel : decode k_P_Lexer_isDigit.2.1 0 = .ok (.iload_n 0, 1)) rfl rfl) ?_
  refine (r_bipush (pc := 1) (by decide +kernel : decode k_P_Lexer_isDigit.2.1 1 = .ok (.bipush (48), 2)) (by decide : _ = (48 : Int32))) ?_
  rcases ite_some h with ⟨c1, h⟩ | ⟨c1, h⟩
  · refine (r_icmp_lt_t (pc := 3) (tgt := 16) (by decide +kernel : decode k_P_Lexer_isDigit.2.1 3 = .ok (.if_icmp .lt (13), 3)) (by decide) c1) ?_
    refine (r_iconst (pc := 16) (by decide +kernel : decode k_P_Lexer_isDigit.2.1 16 = .ok (.iconst 0, 1)) ic_0) ?_
    cases h
    exact r_zret (by decide) rfl (by decide +kernel : decode k_P_Lexer_isDigit.2.1 17 = .ok (.ireturn, 1))
  · refine (r_icmp_lt_f (pc := 3) 16 (by decide +kernel : decode k_P_Lexer_isDigit.2.1 3 = .ok (.if_icmp .lt (13), 3)) (by decide) c1) ?_
    refine (r_iload_n (pc := 6) (k := 0) (by decide +kernel : decode k_P_Lexer_isDigit.2.1 6 = .ok (.iload_n 0, 1)) rfl rfl) ?_
    refine (r_bipush (pc := 7) (by decide +kernel : decode k_P_Lexer_isDigit.2.1 7 = .ok (.bipush (57), 2)) (by decide : _ = (57 : Int32))) ?_
    rcases ite_some h with ⟨c2, h⟩ | ⟨c2, h⟩
    · refine (r_icmp_gt_t (pc := 9) (tgt := 16) (by decide +kernel : decode k_P_Lexer_isDigit.2.1 9 = .ok (.if_icmp .gt (7), 3)) (by decide) c2) ?_
      refine (r_iconst (pc := 16) (by decide +kernel : decode k_P_Lexer_isDigit.2.1 16 = .ok (.iconst 0, 1)) ic_0) ?_
      cases h
      exact r_zret (by decide) rfl (by decide +kernel : decode k_P_Lexer_isDigit.2.1 17 = .ok (.ireturn, 1))
    · refine (r_icmp_gt_f (pc := 9) 16 (by decide +kernel : decode k_P_Lexer_isDigit.2.1 9 = .ok (.if_icmp .gt (7), 3)) (by decide) c2) ?_
      refine (r_iconst (pc := 12) (by decide +kernel : decode k_P_Lexer_isDigit.2.1 12 = .ok (.iconst 1, 1)) ic_1) ?_
      refine (r_goto (pc := 13) (tgt := 17) (by decide +kernel : decode k_P_Lexer_isDigit.2.1 13 = .ok (.goto (4), 3)) (by decide)) ?_
      cases h
      exact r_zret (by decide) rfl (by decide +kernel : decode k_P_Lexer_isDigit.2.1 17 = .ok (.ireturn, 1))
set_option maxRecDepth 100000 in
set_option maxHeartbeats 4000000 in
theorem P_Lexer_signKind_run {x0 : Int32} {x1 : Int32} {m : Mem} {r : Int32} (h : P_Lexer_signKind x0 x1 = some r) : Run k_P_Lexer_signKind 0 [(0, .int x0), (1, .int x1)] [] m (some (.int r)) m := by
  unfold P_Lexer_signKind at h
  refine (r_iload_n (pc := 0) (k := 0) (by decide +kernel : decode k_P_Lexer_signKind.2.1 0 = .ok (.iload_n 0, 1)) rfl rfl) ?_
  rcases ite_some h with ⟨c1, h⟩ | ⟨c1, h⟩
  · refine (r_tableIn (pc := 1) (tgt := 177) (off := 176) (by decide +kernel : decode k_P_Lexer_signKind.2.1 1 = .ok (.tableswitch (187) (33) (61) #[176, 187, 187, 187, 187, 187, 187, 147, 150, 141, 135, 133, 138, 187, 144, 187, 187, 187, 187, 187, 187, 187, 187, 187, 187, 187, 131, 153, 165], 131)) (by rw [c1]; decide) (by rw [c1]; decide) (by rw [c1]; decide +kernel) (by decide)) ?_
    refine (r_iload_n (pc := 177) (k := 1) (by decide +kernel : decode k_P_Lexer_signKind.2.1 177 = .ok (.iload_n 1, 1)) rfl rfl) ?_
    rcases ite_some h with ⟨c2, h⟩ | ⟨c2, h⟩
    · refine (r_if_eq_t (pc := 178) (tgt := 186) (by decide +kernel : decode k_P_Lexer_signKind.2.1 178 = .ok (.ifCond .eq (8), 3)) (by decide) c2) ?_
      refine (r_iconst (pc := 186) (by decide +kernel : decode k_P_Lexer_signKind.2.1 186 = .ok (.iconst 1, 1)) ic_1) ?_
      cases h
      exact r_iret rfl (by decide +kernel : decode k_P_Lexer_signKind.2.1 187 = .ok (.ireturn, 1))
    · refine (r_if_eq_f (pc := 178) 186 (by decide +kernel : decode k_P_Lexer_signKind.2.1 178 = .ok (.ifCond .eq (8), 3)) (by decide) c2) ?_
      refine (r_bipush (pc := 181) (by decide +kernel : decode k_P_Lexer_signKind.2.1 181 = .ok (.bipush (11), 2)) (by decide : _ = (11 : Int32))) ?_
      refine (r_goto (pc := 183) (tgt := 187) (by decide +kernel : decode k_P_Lexer_signKind.2.1 183 = .ok (.goto (4), 3)) (by decide)) ?_
      cases h
      exact r_iret rfl (by decide +kernel : decode k_P_Lexer_signKind.2.1 187 = .ok (.ireturn, 1))
  · skip
    rcases ite_some h with ⟨c3, h⟩ | ⟨c3, h⟩
    · refine (r_tableIn (pc := 1) (tgt := 188) (off := 187) (by decide +kernel : decode k_P_Lexer_signKind.2.1 1 = .ok (.tableswitch (187) (33) (61) #[176, 187, 187, 187, 187, 187, 187, 147, 150, 141, 135, 133, 138, 187, 144, 187, 187, 187, 187, 187, 187, 187, 187, 187, 187, 187, 131, 153, 165], 131)) (by rw [c3]; decide) (by rw [c3]; decide) (by rw [c3]; decide +kernel) (by decide)) ?_
      refine (r_iconst (pc := 188) (by decide +kernel : decode k_P_Lexer_signKind.2.1 188 = .ok (.iconst 1, 1)) ic_1) ?_
      cases h
      exact r_iret rfl (by decide +kernel : decode k_P_Lexer_signKind.2.1 189 = .ok (.ireturn, 1))
    · skip
      rcases ite_some h with ⟨c4, h⟩ | ⟨c4, h⟩
      · refine (r_tableIn (pc := 1) (tgt := 188) (off := 187) (by decide +kernel : decode k_P_Lexer_signKind.2.1 1 = .ok (.tableswitch (187) (33) (61) #[176, 187, 187, 187, 187, 187, 187, 147, 150, 141, 135, 133, 138, 187, 144, 187, 187, 187, 187, 187, 187, 187, 187, 187, 187, 187, 131, 153, 165], 131)) (by rw [c4]; decide) (by rw [c4]; decide) (by rw [c4]; decide +kernel) (by decide)) ?_
        refine (r_iconst (pc := 188) (by decide +kernel : decode k_P_Lexer_signKind.2.1 188 = .ok (.iconst 1, 1)) ic_1) ?_
        cases h
        exact r_iret rfl (by decide +kernel : decode k_P_Lexer_signKind.2.1 189 = .ok (.ireturn, 1))
      · skip
        rcases ite_some h with ⟨c5, h⟩ | ⟨c5, h⟩
        · refine (r_tableIn (pc := 1) (tgt := 188) (off := 187) (by decide +kernel : decode k_P_Lexer_signKind.2.1 1 = .ok (.tableswitch (187) (33) (61) #[176, 187, 187, 187, 187, 187, 187, 147, 150, 141, 135, 133, 138, 187, 144, 187, 187, 187, 187, 187, 187, 187, 187, 187, 187, 187, 131, 153, 165], 131)) (by rw [c5]; decide) (by rw [c5]; decide) (by rw [c5]; decide +kernel) (by decide)) ?_
          refine (r_iconst (pc := 188) (by decide +kernel : decode k_P_Lexer_signKind.2.1 188 = .ok (.iconst 1, 1)) ic_1) ?_
          cases h
          exact r_iret rfl (by decide +kernel : decode k_P_Lexer_signKind.2.1 189 = .ok (.ireturn, 1))
        · skip
          rcases ite_some h with ⟨c6, h⟩ | ⟨c6, h⟩
          · refine (r_tableIn (pc := 1) (tgt := 188) (off := 187) (by decide +kernel : decode k_P_Lexer_signKind.2.1 1 = .ok (.tableswitch (187) (33) (61) #[176, 187, 187, 187, 187, 187, 187, 147, 150, 141, 135, 133, 138, 187, 144, 187, 187, 187, 187, 187, 187, 187, 187, 187, 187, 187, 131, 153, 165], 131)) (by rw [c6]; decide) (by rw [c6]; decide) (by rw [c6]; decide +kernel) (by decide)) ?_
            refine (r_iconst (pc := 188) (by decide +kernel : decode k_P_Lexer_signKind.2.1 188 = .ok (.iconst 1, 1)) ic_1) ?_
            cases h
            exact r_iret rfl (by decide +kernel : decode k_P_Lexer_signKind.2.1 189 = .ok (.ireturn, 1))
          · skip
            rcases ite_some h with ⟨c7, h⟩ | ⟨c7, h⟩
            · refine (r_tableIn (pc := 1) (tgt := 188) (off := 187) (by decide +kernel : decode k_P_Lexer_signKind.2.1 1 = .ok (.tableswitch (187) (33) (61) #[176, 187, 187, 187, 187, 187, 187, 147, 150, 141, 135, 133, 138, 187, 144, 187, 187, 187, 187, 187, 187, 187, 187, 187, 187, 187, 131, 153, 165], 131)) (by rw [c7]; decide) (by rw [c7]; decide) (by rw [c7]; decide +kernel) (by decide)) ?_
              refine (r_iconst (pc := 188) (by decide +kernel : decode k_P_Lexer_signKind.2.1 188 = .ok (.iconst 1, 1)) ic_1) ?_
              cases h
              exact r_iret rfl (by decide +kernel : decode k_P_Lexer_signKind.2.1 189 = .ok (.ireturn, 1))
            · skip
              rcases ite_some h with ⟨c8, h⟩ | ⟨c8, h⟩
              · refine (r_tableIn (pc := 1) (tgt := 188) (off := 187) (by decide +kernel : decode k_P_Lexer_signKind.2.1 1 = .ok (.tableswitch (187) (33) (61) #[176, 187, 187, 187, 187, 187, 187, 147, 150, 141, 135, 133, 138, 187, 144, 187, 187, 187, 187, 187, 187, 187, 187, 187, 187, 187, 131, 153, 165], 131)) (by rw [c8]; decide) (by rw [c8]; decide) (by rw [c8]; decide +kernel) (by decide)) ?_
                refine (r_iconst (pc := 188) (by decide +kernel : decode k_P_Lexer_signKind.2.1 188 = .ok (.iconst 1, 1)) ic_1) ?_
                cases h
                exact r_iret rfl (by decide +kernel : decode k_P_Lexer_signKind.2.1 189 = .ok (.ireturn, 1))
              · skip
                rcases ite_some h with ⟨c9, h⟩ | ⟨c9, h⟩
                · refine (r_tableIn (pc := 1) (tgt := 148) (off := 147) (by decide +kernel : decode k_P_Lexer_signKind.2.1 1 = .ok (.tableswitch (187) (33) (61) #[176, 187, 187, 187, 187, 187, 187, 147, 150, 141, 135, 133, 138, 187, 144, 187, 187, 187, 187, 187, 187, 187, 187, 187, 187, 187, 131, 153, 165], 131)) (by rw [c9]; decide) (by rw [c9]; decide) (by rw [c9]; decide +kernel) (by decide)) ?_
                  refine (r_bipush (pc := 148) (by decide +kernel : decode k_P_Lexer_signKind.2.1 148 = .ok (.bipush (14), 2)) (by decide : _ = (14 : Int32))) ?_
                  cases h
                  exact r_iret rfl (by decide +kernel : decode k_P_Lexer_signKind.2.1 150 = .ok (.ireturn, 1))
                · skip
                  rcases ite_some h with ⟨c10, h⟩ | ⟨c10, h⟩
                  · refine (r_tableIn (pc := 1) (tgt := 151) (off := 150) (by decide +kernel : decode k_P_Lexer_signKind.2.1 1 = .ok (.tableswitch (187) (33) (61) #[176, 187, 187, 187, 187, 187, 187, 147, 150, 141, 135, 133, 138, 187, 144, 187, 187, 187, 187, 187, 187, 187, 187, 187, 187, 187, 131, 153, 165], 131)) (by rw [c10]; decide) (by rw [c10]; decide) (by rw [c10]; decide +kernel) (by decide)) ?_
                    refine (r_bipush (pc := 151) (by decide +kernel : decode k_P_Lexer_signKind.2.1 151 = .ok (.bipush (15), 2)) (by decide : _ = (15 : Int32))) ?_
                    cases h
                    exact r_iret rfl (by decide +kernel : decode k_P_Lexer_signKind.2.1 153 = .ok (.ireturn, 1))
                  · skip
                    rcases ite_some h with ⟨c11, h⟩ | ⟨c11, h⟩
                    · refine (r_tableIn (pc := 1) (tgt := 142) (off := 141) (by decide +kernel : decode k_P_Lexer_signKind.2.1 1 = .ok (.tableswitch (187) (33) (61) #[176, 187, 187, 187, 187, 187, 187, 147, 150, 141, 135, 133, 138, 187, 144, 187, 187, 187, 187, 187, 187, 187, 187, 187, 187, 187, 131, 153, 165], 131)) (by rw [c11]; decide) (by rw [c11]; decide) (by rw [c11]; decide +kernel) (by decide)) ?_
                      refine (r_bipush (pc := 142) (by decide +kernel : decode k_P_Lexer_signKind.2.1 142 = .ok (.bipush (8), 2)) (by decide : _ = (8 : Int32))) ?_
                      cases h
                      exact r_iret rfl (by decide +kernel : decode k_P_Lexer_signKind.2.1 144 = .ok (.ireturn, 1))
                    · skip
                      rcases ite_some h with ⟨c12, h⟩ | ⟨c12, h⟩
                      · refine (r_tableIn (pc := 1) (tgt := 136) (off := 135) (by decide +kernel : decode k_P_Lexer_signKind.2.1 1 = .ok (.tableswitch (187) (33) (61) #[176, 187, 187, 187, 187, 187, 187, 147, 150, 141, 135, 133, 138, 187, 144, 187, 187, 187, 187, 187, 187, 187, 187, 187, 187, 187, 131, 153, 165], 131)) (by rw [c12]; decide) (by rw [c12]; decide) (by rw [c12]; decide +kernel) (by decide)) ?_
                        refine (r_bipush (pc := 136) (by decide +kernel : decode k_P_Lexer_signKind.2.1 136 = .ok (.bipush (6), 2)) (by decide : _ = (6 : Int32))) ?_
                        cases h
                        exact r_iret rfl (by decide +kernel : decode k_P_Lexer_signKind.2.1 138 = .ok (.ireturn, 1))
                      · skip
                        rcases ite_some h with ⟨c13, h⟩ | ⟨c13, h⟩
                        · refine (r_tableIn (pc := 1) (tgt := 134) (off := 133) (by decide +kernel : decode k_P_Lexer_signKind.2.1 1 = .ok (.tableswitch (187) (33) (61) #[176, 187, 187, 187, 187, 187, 187, 147, 150, 141, 135, 133, 138, 187, 144, 187, 187, 187, 187, 187, 187, 187, 187, 187, 187, 187, 131, 153, 165], 131)) (by rw [c13]; decide) (by rw [c13]; decide) (by rw [c13]; decide +kernel) (by decide)) ?_
                          refine (r_iconst (pc := 134) (by decide +kernel : decode k_P_Lexer_signKind.2.1 134 = .ok (.iconst 5, 1)) ic_5) ?_
                          cases h
                          exact r_iret rfl (by decide +kernel : decode k_P_Lexer_signKind.2.1 135 = .ok (.ireturn, 1))
                        · skip
                          rcases ite_some h with ⟨c14, h⟩ | ⟨c14, h⟩
                          · refine (r_tableIn (pc := 1) (tgt := 139) (off := 138) (by decide +kernel : decode k_P_Lexer_signKind.2.1 1 = .ok (.tableswitch (187) (33) (61) #[176, 187, 187, 187, 187, 187, 187, 147, 150, 141, 135, 133, 138, 187, 144, 187, 187, 187, 187, 187, 187, 187, 187, 187, 187, 187, 131, 153, 165], 131)) (by rw [c14]; decide) (by rw [c14]; decide) (by rw [c14]; decide +kernel) (by decide)) ?_
                            refine (r_bipush (pc := 139) (by decide +kernel : decode k_P_Lexer_signKind.2.1 139 = .ok (.bipush (7), 2)) (by decide : _ = (7 : Int32))) ?_
                            cases h
                            exact r_iret rfl (by decide +kernel : decode k_P_Lexer_signKind.2.1 141 = .ok (.ireturn, 1))
                          · skip
                            rcases ite_some h with ⟨c15, h⟩ | ⟨c15, h⟩
                            · refine (r_tableIn (pc := 1) (tgt := 188) (off := 187) (by decide +kernel : decode k_P_Lexer_signKind.2.1 1 = .ok (.tableswitch (187) (33) (61) #[176, 187, 187, 187, 187, 187, 187, 147, 150, 141, 135, 133, 138, 187, 144, 187, 187, 187, 187, 187, 187, 187, 187, 187, 187, 187, 131, 153, 165], 131)) (by rw [c15]; decide) (by rw [c15]; decide) (by rw [c15]; decide +kernel) (by decide)) ?_
                              refine (r_iconst (pc := 188) (by decide +kernel : decode k_P_Lexer_signKind.2.1 188 = .ok (.iconst 1, 1)) ic_1) ?_
                              cases h
                              exact r_iret rfl (by decide +kernel : decode k_P_Lexer_signKind.2.1 189 = .ok (.ireturn, 1))
                            · skip
                              rcases ite_some h with ⟨c16, h⟩ | ⟨c16, h⟩
                              · refine (r_tableIn (pc := 1) (tgt := 145) (off := 144) (by decide +kernel : decode k_P_Lexer_signKind.2.1 1 = .ok (.tableswitch (187) (33) (61) #[176, 187, 187, 187, 187, 187, 187, 147, 150, 141, 135, 133, 138, 187, 144, 187, 187, 187, 187, 187, 187, 187, 187, 187, 187, 187, 131, 153, 165], 131)) (by rw [c16]; decide) (by rw [c16]; decide) (by rw [c16]; decide +kernel) (by decide)) ?_
                                refine (r_bipush (pc := 145) (by decide +kernel : decode k_P_Lexer_signKind.2.1 145 = .ok (.bipush (9), 2)) (by decide : _ = (9 : Int32))) ?_
                                cases h
                                exact r_iret rfl (by decide +kernel : decode k_P_Lexer_signKind.2.1 147 = .ok (.ireturn, 1))
                              · skip
                                rcases ite_some h with ⟨c17, h⟩ | ⟨c17, h⟩
                                · refine (r_tableIn (pc := 1) (tgt := 188) (off := 187) (by decide +kernel : decode k_P_Lexer_signKind.2.1 1 = .ok (.tableswitch (187) (33) (61) #[176, 187, 187, 187, 187, 187, 187, 147, 150, 141, 135, 133, 138, 187, 144, 187, 187, 187, 187, 187, 187, 187, 187, 187, 187, 187, 131, 153, 165], 131)) (by rw [c17]; decide) (by rw [c17]; decide) (by rw [c17]; decide +kernel) (by decide)) ?_
                                  refine (r_iconst (pc := 188) (by decide +kernel : decode k_P_Lexer_signKind.2.1 188 = .ok (.iconst 1, 1)) ic_1) ?_
                                  cases h
                                  exact r_iret rfl (by decide +kernel : decode k_P_Lexer_signKind.2.1 189 = .ok (.ireturn, 1))
                                · skip
                                  rcases ite_some h with ⟨c18, h⟩ | ⟨c18, h⟩
                                  · refine (r_tableIn (pc := 1) (tgt := 188) (off := 187) (by decide +kernel : decode k_P_Lexer_signKind.2.1 1 = .ok (.tableswitch (187) (33) (61) #[176, 187, 187, 187, 187, 187, 187, 147, 150, 141, 135, 133, 138, 187, 144, 187, 187, 187, 187, 187, 187, 187, 187, 187, 187, 187, 131, 153, 165], 131)) (by rw [c18]; decide) (by rw [c18]; decide) (by rw [c18]; decide +kernel) (by decide)) ?_
                                    refine (r_iconst (pc := 188) (by decide +kernel : decode k_P_Lexer_signKind.2.1 188 = .ok (.iconst 1, 1)) ic_1) ?_
                                    cases h
                                    exact r_iret rfl (by decide +kernel : decode k_P_Lexer_signKind.2.1 189 = .ok (.ireturn, 1))
                                  · skip
                                    rcases ite_some h with ⟨c19, h⟩ | ⟨c19, h⟩
                                    · refine (r_tableIn (pc := 1) (tgt := 188) (off := 187) (by decide +kernel : decode k_P_Lexer_signKind.2.1 1 = .ok (.tableswitch (187) (33) (61) #[176, 187, 187, 187, 187, 187, 187, 147, 150, 141, 135, 133, 138, 187, 144, 187, 187, 187, 187, 187, 187, 187, 187, 187, 187, 187, 131, 153, 165], 131)) (by rw [c19]; decide) (by rw [c19]; decide) (by rw [c19]; decide +kernel) (by decide)) ?_
                                      refine (r_iconst (pc := 188) (by decide +kernel : decode k_P_Lexer_signKind.2.1 188 = .ok (.iconst 1, 1)) ic_1) ?_
                                      cases h
                                      exact r_iret rfl (by decide +kernel : decode k_P_Lexer_signKind.2.1 189 = .ok (.ireturn, 1))
                                    · skip
                                      rcases ite_some h with ⟨c20, h⟩ | ⟨c20, h⟩
                                      · refine (r_tableIn (pc := 1) (tgt := 188) (off := 187) (by decide +kernel : decode k_P_Lexer_signKind.2.1 1 = .ok (.tableswitch (187) (33) (61) #[176, 187, 187, 187, 187, 187, 187, 147, 150, 141, 135, 133, 138, 187, 144, 187, 187, 187, 187, 187, 187, 187, 187, 187, 187, 187, 131, 153, 165], 131)) (by rw [c20]; decide) (by rw [c20]; decide) (by rw [c20]; decide +kernel) (by decide)) ?_
                                        refine (r_iconst (pc := 188) (by decide +kernel : decode k_P_Lexer_signKind.2.1 188 = .ok (.iconst 1, 1)) ic_1) ?_
                                        cases h
                                        exact r_iret rfl (by decide +kernel : decode k_P_Lexer_signKind.2.1 189 = .ok (.ireturn, 1))
                                      · skip
                                        rcases ite_some h with ⟨c21, h⟩ | ⟨c21, h⟩
                                        · refine (r_tableIn (pc := 1) (tgt := 188) (off := 187) (by decide +kernel : decode k_P_Lexer_signKind.2.1 1 = .ok (.tableswitch (187) (33) (61) #[176, 187, 187, 187, 187, 187, 187, 147, 150, 141, 135, 133, 138, 187, 144, 187, 187, 187, 187, 187, 187, 187, 187, 187, 187, 187, 131, 153, 165], 131)) (by rw [c21]; decide) (by rw [c21]; decide) (by rw [c21]; decide +kernel) (by decide)) ?_
                                          refine (r_iconst (pc := 188) (by decide +kernel : decode k_P_Lexer_signKind.2.1 188 = .ok (.iconst 1, 1)) ic_1) ?_
                                          cases h
                                          exact r_iret rfl (by decide +kernel : decode k_P_Lexer_signKind.2.1 189 = .ok (.ireturn, 1))
                                        · skip
                                          rcases ite_some h with ⟨c22, h⟩ | ⟨c22, h⟩
                                          · refine (r_tableIn (pc := 1) (tgt := 188) (off := 187) (by decide +kernel : decode k_P_Lexer_signKind.2.1 1 = .ok (.tableswitch (187) (33) (61) #[176, 187, 187, 187, 187, 187, 187, 147, 150, 141, 135, 133, 138, 187, 144, 187, 187, 187, 187, 187, 187, 187, 187, 187, 187, 187, 131, 153, 165], 131)) (by rw [c22]; decide) (by rw [c22]; decide) (by rw [c22]; decide +kernel) (by decide)) ?_
                                            refine (r_iconst (pc := 188) (by decide +kernel : decode k_P_Lexer_signKind.2.1 188 = .ok (.iconst 1, 1)) ic_1) ?_
                                            cases h
                                            exact r_iret rfl (by decide +kernel : decode k_P_Lexer_signKind.2.1 189 = .ok (.ireturn, 1))
                                          · skip
                                            rcases ite_some h with ⟨c23, h⟩ | ⟨c23, h⟩
                                            · refine (r_tableIn (pc := 1) (tgt := 188) (off := 187) (by decide +kernel : decode k_P_Lexer_signKind.2.1 1 = .ok (.tableswitch (187) (33) (61) #[176, 187, 187, 187, 187, 187, 187, 147, 150, 141, 135, 133, 138, 187, 144, 187, 187, 187, 187, 187, 187, 187, 187, 187, 187, 187, 131, 153, 165], 131)) (by rw [c23]; decide) (by rw [c23]; decide) (by rw [c23]; decide +kernel) (by decide)) ?_
                                              refine (r_iconst (pc := 188) (by decide +kernel : decode k_P_Lexer_signKind.2.1 188 = .ok (.iconst 1, 1)) ic_1) ?_
                                              cases h
                                              exact r_iret rfl (by decide +kernel : decode k_P_Lexer_signKind.2.1 189 = .ok (.ireturn, 1))
                                            · skip
                                              rcases ite_some h with ⟨c24, h⟩ | ⟨c24, h⟩
                                              · refine (r_tableIn (pc := 1) (tgt := 188) (off := 187) (by decide +kernel : decode k_P_Lexer_signKind.2.1 1 = .ok (.tableswitch (187) (33) (61) #[176, 187, 187, 187, 187, 187, 187, 147, 150, 141, 135, 133, 138, 187, 144, 187, 187, 187, 187, 187, 187, 187, 187, 187, 187, 187, 131, 153, 165], 131)) (by rw [c24]; decide) (by rw [c24]; decide) (by rw [c24]; decide +kernel) (by decide)) ?_
                                                refine (r_iconst (pc := 188) (by decide +kernel : decode k_P_Lexer_signKind.2.1 188 = .ok (.iconst 1, 1)) ic_1) ?_
                                                cases h
                                                exact r_iret rfl (by decide +kernel : decode k_P_Lexer_signKind.2.1 189 = .ok (.ireturn, 1))
                                              · skip
                                                rcases ite_some h with ⟨c25, h⟩ | ⟨c25, h⟩
                                                · refine (r_tableIn (pc := 1) (tgt := 188) (off := 187) (by decide +kernel : decode k_P_Lexer_signKind.2.1 1 = .ok (.tableswitch (187) (33) (61) #[176, 187, 187, 187, 187, 187, 187, 147, 150, 141, 135, 133, 138, 187, 144, 187, 187, 187, 187, 187, 187, 187, 187, 187, 187, 187, 131, 153, 165], 131)) (by rw [c25]; decide) (by rw [c25]; decide) (by rw [c25]; decide +kernel) (by decide)) ?_
                                                  refine (r_iconst (pc := 188) (by decide +kernel : decode k_P_Lexer_signKind.2.1 188 = .ok (.iconst 1, 1)) ic_1) ?_
                                                  cases h
                                                  exact r_iret rfl (by decide +kernel : decode k_P_Lexer_signKind.2.1 189 = .ok (.ireturn, 1))
                                                · skip
                                                  rcases ite_some h with ⟨c26, h⟩ | ⟨c26, h⟩
                                                  · refine (r_tableIn (pc := 1) (tgt := 188) (off := 187) (by decide +kernel : decode k_P_Lexer_signKind.2.1 1 = .ok (.tableswitch (187) (33) (61) #[176, 187, 187, 187, 187, 187, 187, 147, 150, 141, 135, 133, 138, 187, 144, 187, 187, 187, 187, 187, 187, 187, 187, 187, 187, 187, 131, 153, 165], 131)) (by rw [c26]; decide) (by rw [c26]; decide) (by rw [c26]; decide +kernel) (by decide)) ?_
                                                    refine (r_iconst (pc := 188) (by decide +kernel : decode k_P_Lexer_signKind.2.1 188 = .ok (.iconst 1, 1)) ic_1) ?_
                                                    cases h
                                                    exact r_iret rfl (by decide +kernel : decode k_P_Lexer_signKind.2.1 189 = .ok (.ireturn, 1))
                                                  · skip
                                                    rcases ite_some h with ⟨c27, h⟩ | ⟨c27, h⟩
                                                    · refine (r_tableIn (pc := 1) (tgt := 188) (off := 187) (by decide +kernel : decode k_P_Lexer_signKind.2.1 1 = .ok (.tableswitch (187) (33) (61) #[176, 187, 187, 187, 187, 187, 187, 147, 150, 141, 135, 133, 138, 187, 144, 187, 187, 187, 187, 187, 187, 187, 187, 187, 187, 187, 131, 153, 165], 131)) (by rw [c27]; decide) (by rw [c27]; decide) (by rw [c27]; decide +kernel) (by decide)) ?_
                                                      refine (r_iconst (pc := 188) (by decide +kernel : decode k_P_Lexer_signKind.2.1 188 = .ok (.iconst 1, 1)) ic_1) ?_
                                                      cases h
                                                      exact r_iret rfl (by decide +kernel : decode k_P_Lexer_signKind.2.1 189 = .ok (.ireturn, 1))
                                                    · skip
                                                      rcases ite_some h with ⟨c28, h⟩ | ⟨c28, h⟩
                                                      · refine (r_tableIn (pc := 1) (tgt := 132) (off := 131) (by decide +kernel : decode k_P_Lexer_signKind.2.1 1 = .ok (.tableswitch (187) (33) (61) #[176, 187, 187, 187, 187, 187, 187, 147, 150, 141, 135, 133, 138, 187, 144, 187, 187, 187, 187, 187, 187, 187, 187, 187, 187, 187, 131, 153, 165], 131)) (by rw [c28]; decide) (by rw [c28]; decide) (by rw [c28]; decide +kernel) (by decide)) ?_
                                                        refine (r_iconst (pc := 132) (by decide +kernel : decode k_P_Lexer_signKind.2.1 132 = .ok (.iconst 4, 1)) ic_4) ?_
                                                        cases h
                                                        exact r_iret rfl (by decide +kernel : decode k_P_Lexer_signKind.2.1 133 = .ok (.ireturn, 1))
                                                      · skip
                                                        rcases ite_some h with ⟨c29, h⟩ | ⟨c29, h⟩
                                                        · refine (r_tableIn (pc := 1) (tgt := 154) (off := 153) (by decide +kernel : decode k_P_Lexer_signKind.2.1 1 = .ok (.tableswitch (187) (33) (61) #[176, 187, 187, 187, 187, 187, 187, 147, 150, 141, 135, 133, 138, 187, 144, 187, 187, 187, 187, 187, 187, 187, 187, 187, 187, 187, 131, 153, 165], 131)) (by rw [c29]; decide) (by rw [c29]; decide) (by rw [c29]; decide +kernel) (by decide)) ?_
                                                          refine (r_iload_n (pc := 154) (k := 1) (by decide +kernel : decode k_P_Lexer_signKind.2.1 154 = .ok (.iload_n 1, 1)) rfl rfl) ?_
                                                          rcases ite_some h with ⟨c30, h⟩ | ⟨c30, h⟩
                                                          · refine (r_if_eq_t (pc := 155) (tgt := 163) (by decide +kernel : decode k_P_Lexer_signKind.2.1 155 = .ok (.ifCond .eq (8), 3)) (by decide) c30) ?_
                                                            refine (r_bipush (pc := 163) (by decide +kernel : decode k_P_Lexer_signKind.2.1 163 = .ok (.bipush (12), 2)) (by decide : _ = (12 : Int32))) ?_
                                                            cases h
                                                            exact r_iret rfl (by decide +kernel : decode k_P_Lexer_signKind.2.1 165 = .ok (.ireturn, 1))
                                                          · refine (r_if_eq_f (pc := 155) 163 (by decide +kernel : decode k_P_Lexer_signKind.2.1 155 = .ok (.ifCond .eq (8), 3)) (by decide) c30) ?_
                                                            refine (r_bipush (pc := 158) (by decide +kernel : decode k_P_Lexer_signKind.2.1 158 = .ok (.bipush (13), 2)) (by decide : _ = (13 : Int32))) ?_
                                                            refine (r_goto (pc := 160) (tgt := 165) (by decide +kernel : decode k_P_Lexer_signKind.2.1 160 = .ok (.goto (5), 3)) (by decide)) ?_
                                                            cases h
                                                            exact r_iret rfl (by decide +kernel : decode k_P_Lexer_signKind.2.1 165 = .ok (.ireturn, 1))
                                                        · skip
                                                          rcases ite_some h with ⟨c31, h⟩ | ⟨c31, h⟩
                                                          · refine (r_tableIn (pc := 1) (tgt := 166) (off := 165) (by decide +kernel : decode k_P_Lexer_signKind.2.1 1 = .ok (.tableswitch (187) (33) (61) #[176, 187, 187, 187, 187, 187, 187, 147, 150, 141, 135, 133, 138, 187, 144, 187, 187, 187, 187, 187, 187, 187, 187, 187, 187, 187, 131, 153, 165], 131)) (by rw [c31]; decide) (by rw [c31]; decide) (by rw [c31]; decide +kernel) (by decide)) ?_
                                                            refine (r_iload_n (pc := 166) (k := 1) (by decide +kernel : decode k_P_Lexer_signKind.2.1 166 = .ok (.iload_n 1, 1)) rfl rfl) ?_
                                                            rcases ite_some h with ⟨c32, h⟩ | ⟨c32, h⟩
                                                            · refine (r_if_eq_t (pc := 167) (tgt := 175) (by decide +kernel : decode k_P_Lexer_signKind.2.1 167 = .ok (.ifCond .eq (8), 3)) (by decide) c32) ?_
                                                              refine (r_iconst (pc := 175) (by decide +kernel : decode k_P_Lexer_signKind.2.1 175 = .ok (.iconst 1, 1)) ic_1) ?_
                                                              cases h
                                                              exact r_iret rfl (by decide +kernel : decode k_P_Lexer_signKind.2.1 176 = .ok (.ireturn, 1))
                                                            · refine (r_if_eq_f (pc := 167) 175 (by decide +kernel : decode k_P_Lexer_signKind.2.1 167 = .ok (.ifCond .eq (8), 3)) (by decide) c32) ?_
                                                              refine (r_bipush (pc := 170) (by decide +kernel : decode k_P_Lexer_signKind.2.1 170 = .ok (.bipush (10), 2)) (by decide : _ = (10 : Int32))) ?_
                                                              refine (r_goto (pc := 172) (tgt := 176) (by decide +kernel : decode k_P_Lexer_signKind.2.1 172 = .ok (.goto (4), 3)) (by decide)) ?_
                                                              cases h
                                                              exact r_iret rfl (by decide +kernel : decode k_P_Lexer_signKind.2.1 176 = .ok (.ireturn, 1))
                                                          · skip
                                                            have ho := tab_out (x := x0) 33 29 (by decide) (by decide) (fun k hk => by
                                                              rcases (show k = 0 ∨ k = 1 ∨ k = 2 ∨ k = 3 ∨ k = 4 ∨ k = 5 ∨ k = 6 ∨ k = 7 ∨ k = 8 ∨ k = 9 ∨ k = 10 ∨ k = 11 ∨ k = 12 ∨ k = 13 ∨ k = 14 ∨ k = 15 ∨ k = 16 ∨ k = 17 ∨ k = 18 ∨ k = 19 ∨ k = 20 ∨ k = 21 ∨ k = 22 ∨ k = 23 ∨ k = 24 ∨ k = 25 ∨ k = 26 ∨ k = 27 ∨ k = 28 by omega) with rfl | rfl | rfl | rfl | rfl | rfl | rfl | rfl | rfl | rfl | rfl | rfl | rfl | rfl | rfl | rfl | rfl | rfl | rfl | rfl | rfl | rfl | rfl | rfl | rfl | rfl | rfl | rfl | rfl
                                                              · exact fun z => c1 (z.trans (by decide))
                                                              · exact fun z => c3 (z.trans (by decide))
                                                              · exact fun z => c4 (z.trans (by decide))
                                                              · exact fun z => c5 (z.trans (by decide))
                                                              · exact fun z => c6 (z.trans (by decide))
                                                              · exact fun z => c7 (z.trans (by decide))
                                                              · exact fun z => c8 (z.trans (by decide))
                                                              · exact fun z => c9 (z.trans (by decide))
                                                              · exact fun z => c10 (z.trans (by decide))
                                                              · exact fun z => c11 (z.trans (by decide))
                                                              · exact fun z => c12 (z.trans (by decide))
                                                              · exact fun z => c13 (z.trans (by decide))
                                                              · exact fun z => c14 (z.trans (by decide))
                                                              · exact fun z => c15 (z.trans (by decide))
                                                              · exact fun z => c16 (z.trans (by decide))
                                                              · exact fun z => c17 (z.trans (by decide))
                                                              · exact fun z => c18 (z.trans (by decide))
                                                              · exact fun z => c19 (z.trans (by decide))
                                                              · exact fun z => c20 (z.trans (by decide))
                                                              · exact fun z => c21 (z.trans (by decide))
                                                              · exact fun z => c22 (z.trans (by decide))
                                                              · exact fun z => c23 (z.trans (by decide))
                                                              · exact fun z => c24 (z.trans (by decide))
                                                              · exact fun z => c25 (z.trans (by decide))
                                                              · exact fun z => c26 (z.trans (by decide))
                                                              · exact fun z => c27 (z.trans (by decide))
                                                              · exact fun z => c28 (z.trans (by decide))
                                                              · exact fun z => c29 (z.trans (by decide))
                                                              · exact fun z => c31 (z.trans (by decide)))
                                                            refine (r_tableOut (pc := 1) (tgt := 188) (by decide +kernel : decode k_P_Lexer_signKind.2.1 1 = .ok (.tableswitch (187) (33) (61) #[176, 187, 187, 187, 187, 187, 187, 147, 150, 141, 135, 133, 138, 187, 144, 187, 187, 187, 187, 187, 187, 187, 187, 187, 187, 187, 131, 153, 165], 131)) (by simpa using ho) (by decide)) ?_
                                                            refine (r_iconst (pc := 188) (by decide +kernel : decode k_P_Lexer_signKind.2.1 188 = .ok (.iconst 1, 1)) ic_1) ?_
                                                            cases h
                                                            exact r_iret rfl (by decide +kernel : decode k_P_Lexer_signKind.2.1 189 = .ok (.ireturn, 1))
set_option maxRecDepth 100000 in
set_option maxHeartbeats 4000000 in
theorem P_within_run {x0 : Int32} {x1 : Int32} {x2 : Int32} {m : Mem} {r : Int32} (h : P_within x0 x1 x2 = some r) : Run k_P_within 0 [(0, .int x0), (1, .int x1), (2, .int x2)] [] m (some (.int r)) m := by
  unfold P_within at h
  refine (r_iload_n (pc := 0) (k := 0) (by decide +kernel : decode k_P_within.2.1 0 = .ok (.iload_n 0, 1)) rfl rfl) ?_
  refine (r_iload_n (pc := 1) (k := 1) (by decide +kernel : decode k_P_within.2.1 1 = .ok (.iload_n 1, 1)) rfl rfl) ?_
  rcases ite_some h with ⟨c1, h⟩ | ⟨c1, h⟩
  · refine (r_icmp_lt_t (pc := 2) (tgt := 14) (by decide +kernel : decode k_P_within.2.1 2 = .ok (.if_icmp .lt (12), 3)) (by decide) c1) ?_
    refine (r_iconst (pc := 14) (by decide +kernel : decode k_P_within.2.1 14 = .ok (.iconst 0, 1)) ic_0) ?_
    cases h
    exact r_zret (by decide) rfl (by decide +kernel : decode k_P_within.2.1 15 = .ok (.ireturn, 1))
  · refine (r_icmp_lt_f (pc := 2) 14 (by decide +kernel : decode k_P_within.2.1 2 = .ok (.if_icmp .lt (12), 3)) (by decide) c1) ?_
    refine (r_iload_n (pc := 5) (k := 0) (by decide +kernel : decode k_P_within.2.1 5 = .ok (.iload_n 0, 1)) rfl rfl) ?_
    refine (r_iload_n (pc := 6) (k := 2) (by decide +kernel : decode k_P_within.2.1 6 = .ok (.iload_n 2, 1)) rfl rfl) ?_
    rcases ite_some h with ⟨c2, h⟩ | ⟨c2, h⟩
    · refine (r_icmp_gt_t (pc := 7) (tgt := 14) (by decide +kernel : decode k_P_within.2.1 7 = .ok (.if_icmp .gt (7), 3)) (by decide) c2) ?_
      refine (r_iconst (pc := 14) (by decide +kernel : decode k_P_within.2.1 14 = .ok (.iconst 0, 1)) ic_0) ?_
      cases h
      exact r_zret (by decide) rfl (by decide +kernel : decode k_P_within.2.1 15 = .ok (.ireturn, 1))
    · refine (r_icmp_gt_f (pc := 7) 14 (by decide +kernel : decode k_P_within.2.1 7 = .ok (.if_icmp .gt (7), 3)) (by decide) c2) ?_
      refine (r_iconst (pc := 10) (by decide +kernel : decode k_P_within.2.1 10 = .ok (.iconst 1, 1)) ic_1) ?_
      refine (r_goto (pc := 11) (tgt := 15) (by decide +kernel : decode k_P_within.2.1 11 = .ok (.goto (4), 3)) (by decide)) ?_
      cases h
      exact r_zret (by decide) rfl (by decide +kernel : decode k_P_within.2.1 15 = .ok (.ireturn, 1))
set_option maxRecDepth 100000 in
set_option maxHeartbeats 4000000 in
theorem P_Formula_rankOf_run {x0 : Int32} {m : Mem} {r : Int32} (h : P_Formula_rankOf x0 = some r) : Run k_P_Formula_rankOf 0 [(0, .int x0)] [] m (some (.int r)) m := by
  unfold P_Formula_rankOf at h
  refine (r_iload_n (pc := 0) (k := 0) (by decide +kernel : decode k_P_Formula_rankOf.2.1 0 = .ok (.iload_n 0, 1)) rfl rfl) ?_
  rcases ite_some h with ⟨c1, h⟩ | ⟨c1, h⟩
  · refine (r_lookup (pc := 1) (tgt := 64) (off := 63) (by decide +kernel : decode k_P_Formula_rankOf.2.1 1 = .ok (.lookupswitch (68) #[(6, 63), (7, 63), (8, 65), (9, 65), (56, 59), (57, 61)], 59)) (by decide +kernel) (by rw [c1]; decide +kernel) (by decide)) ?_
    refine (r_iconst (pc := 64) (by decide +kernel : decode k_P_Formula_rankOf.2.1 64 = .ok (.iconst 5, 1)) ic_5) ?_
    cases h
    exact r_iret rfl (by decide +kernel : decode k_P_Formula_rankOf.2.1 65 = .ok (.ireturn, 1))
  · skip
    rcases ite_some h with ⟨c2, h⟩ | ⟨c2, h⟩
    · refine (r_lookup (pc := 1) (tgt := 64) (off := 63) (by decide +kernel : decode k_P_Formula_rankOf.2.1 1 = .ok (.lookupswitch (68) #[(6, 63), (7, 63), (8, 65), (9, 65), (56, 59), (57, 61)], 59)) (by decide +kernel) (by rw [c2]; decide +kernel) (by decide)) ?_
      refine (r_iconst (pc := 64) (by decide +kernel : decode k_P_Formula_rankOf.2.1 64 = .ok (.iconst 5, 1)) ic_5) ?_
      cases h
      exact r_iret rfl (by decide +kernel : decode k_P_Formula_rankOf.2.1 65 = .ok (.ireturn, 1))
    · skip
      rcases ite_some h with ⟨c3, h⟩ | ⟨c3, h⟩
      · refine (r_lookup (pc := 1) (tgt := 66) (off := 65) (by decide +kernel : decode k_P_Formula_rankOf.2.1 1 = .ok (.lookupswitch (68) #[(6, 63), (7, 63), (8, 65), (9, 65), (56, 59), (57, 61)], 59)) (by decide +kernel) (by rw [c3]; decide +kernel) (by decide)) ?_
        refine (r_bipush (pc := 66) (by decide +kernel : decode k_P_Formula_rankOf.2.1 66 = .ok (.bipush (6), 2)) (by decide : _ = (6 : Int32))) ?_
        cases h
        exact r_iret rfl (by decide +kernel : decode k_P_Formula_rankOf.2.1 68 = .ok (.ireturn, 1))
      · skip
        rcases ite_some h with ⟨c4, h⟩ | ⟨c4, h⟩
        · refine (r_lookup (pc := 1) (tgt := 66) (off := 65) (by decide +kernel : decode k_P_Formula_rankOf.2.1 1 = .ok (.lookupswitch (68) #[(6, 63), (7, 63), (8, 65), (9, 65), (56, 59), (57, 61)], 59)) (by decide +kernel) (by rw [c4]; decide +kernel) (by decide)) ?_
          refine (r_bipush (pc := 66) (by decide +kernel : decode k_P_Formula_rankOf.2.1 66 = .ok (.bipush (6), 2)) (by decide : _ = (6 : Int32))) ?_
          cases h
          exact r_iret rfl (by decide +kernel : decode k_P_Formula_rankOf.2.1 68 = .ok (.ireturn, 1))
        · skip
          rcases ite_some h with ⟨c5, h⟩ | ⟨c5, h⟩
          · refine (r_lookup (pc := 1) (tgt := 60) (off := 59) (by decide +kernel : decode k_P_Formula_rankOf.2.1 1 = .ok (.lookupswitch (68) #[(6, 63), (7, 63), (8, 65), (9, 65), (56, 59), (57, 61)], 59)) (by decide +kernel) (by rw [c5]; decide +kernel) (by decide)) ?_
            refine (r_iconst (pc := 60) (by decide +kernel : decode k_P_Formula_rankOf.2.1 60 = .ok (.iconst 1, 1)) ic_1) ?_
            cases h
            exact r_iret rfl (by decide +kernel : decode k_P_Formula_rankOf.2.1 61 = .ok (.ireturn, 1))
          · skip
            rcases ite_some h with ⟨c6, h⟩ | ⟨c6, h⟩
            · refine (r_lookup (pc := 1) (tgt := 62) (off := 61) (by decide +kernel : decode k_P_Formula_rankOf.2.1 1 = .ok (.lookupswitch (68) #[(6, 63), (7, 63), (8, 65), (9, 65), (56, 59), (57, 61)], 59)) (by decide +kernel) (by rw [c6]; decide +kernel) (by decide)) ?_
              refine (r_iconst (pc := 62) (by decide +kernel : decode k_P_Formula_rankOf.2.1 62 = .ok (.iconst 2, 1)) ic_2) ?_
              cases h
              exact r_iret rfl (by decide +kernel : decode k_P_Formula_rankOf.2.1 63 = .ok (.ireturn, 1))
            · skip
              refine (r_lookup (pc := 1) (tgt := 69) (off := 68) (by decide +kernel : decode k_P_Formula_rankOf.2.1 1 = .ok (.lookupswitch (68) #[(6, 63), (7, 63), (8, 65), (9, 65), (56, 59), (57, 61)], 59)) (by decide +kernel) (by exact (lk_cons (fun z => c1 (z.trans (by decide))) (lk_cons (fun z => c2 (z.trans (by decide))) (lk_cons (fun z => c3 (z.trans (by decide))) (lk_cons (fun z => c4 (z.trans (by decide))) (lk_cons (fun z => c5 (z.trans (by decide))) (lk_cons (fun z => c6 (z.trans (by decide))) rfl))))))) (by decide)) ?_
              refine (r_iconst (pc := 69) (by decide +kernel : decode k_P_Formula_rankOf.2.1 69 = .ok (.iconst 4, 1)) ic_4) ?_
              cases h
              exact r_iret rfl (by decide +kernel : decode k_P_Formula_rankOf.2.1 70 = .ok (.ireturn, 1))
set_option maxRecDepth 100000 in
set_option maxHeartbeats 4000000 in
theorem P_isTask_run {x0 : Int32} {m : Mem} {r : Int32} (h : P_isTask x0 = some r) : Run k_P_isTask 0 [(0, .int x0)] [] m (some (.int r)) m := by
  unfold P_isTask at h
  refine (r_iload_n (pc := 0) (k := 0) (by decide +kernel : decode k_P_isTask.2.1 0 = .ok (.iload_n 0, 1)) rfl rfl) ?_
  refine (r_iconst (pc := 1) (by decide +kernel : decode k_P_isTask.2.1 1 = .ok (.iconst 0, 1)) ic_0) ?_
  refine (r_bipush (pc := 2) (by decide +kernel : decode k_P_isTask.2.1 2 = .ok (.bipush (15), 2)) (by decide : _ = (15 : Int32))) ?_
  obtain ⟨r1, hr1, h⟩ := bp_some h
  refine (q_callS (pc := 4) (As := [.int x0, .int 0, .int 15]) (st := []) (st2 := [.int r1]) rfl rfl (by decide +kernel : decode k_P_isTask.2.1 4 = .ok (.invokestatic 117, 3)) lc_11_117 mo_P_within ⟨Nat.le_of_ble_eq_true rfl, Nat.le_of_ble_eq_true rfl⟩ (Nat.le_of_ble_eq_true rfl) (Nat.le_of_ble_eq_true rfl) (P_within_run hr1)) ?_
  obtain ⟨z2, h⟩ := gz_some h
  cases h
  exact r_zret z2 rfl (by decide +kernel : decode k_P_isTask.2.1 7 = .ok (.ireturn, 1))
set_option maxRecDepth 100000 in
set_option maxHeartbeats 4000000 in
theorem P_isQuarter_run {x0 : Int32} {m : Mem} {r : Int32} (h : P_isQuarter x0 = some r) : Run k_P_isQuarter 0 [(0, .int x0)] [] m (some (.int r)) m := by
  unfold P_isQuarter at h
  refine (r_iload_n (pc := 0) (k := 0) (by decide +kernel : decode k_P_isQuarter.2.1 0 = .ok (.iload_n 0, 1)) rfl rfl) ?_
  refine (r_iconst (pc := 1) (by decide +kernel : decode k_P_isQuarter.2.1 1 = .ok (.iconst 0, 1)) ic_0) ?_
  refine (r_iconst (pc := 2) (by decide +kernel : decode k_P_isQuarter.2.1 2 = .ok (.iconst 3, 1)) ic_3) ?_
  obtain ⟨r1, hr1, h⟩ := bp_some h
  refine (q_callS (pc := 3) (As := [.int x0, .int 0, .int 3]) (st := []) (st2 := [.int r1]) rfl rfl (by decide +kernel : decode k_P_isQuarter.2.1 3 = .ok (.invokestatic 117, 3)) lc_11_117 mo_P_within ⟨Nat.le_of_ble_eq_true rfl, Nat.le_of_ble_eq_true rfl⟩ (Nat.le_of_ble_eq_true rfl) (Nat.le_of_ble_eq_true rfl) (P_within_run hr1)) ?_
  obtain ⟨z2, h⟩ := gz_some h
  cases h
  exact r_zret z2 rfl (by decide +kernel : decode k_P_isQuarter.2.1 6 = .ok (.ireturn, 1))
set_option maxRecDepth 100000 in
set_option maxHeartbeats 4000000 in
theorem P_isDay_run {x0 : Int32} {m : Mem} {r : Int32} (h : P_isDay x0 = some r) : Run k_P_isDay 0 [(0, .int x0)] [] m (some (.int r)) m := by
  unfold P_isDay at h
  refine (r_iload_n (pc := 0) (k := 0) (by decide +kernel : decode k_P_isDay.2.1 0 = .ok (.iload_n 0, 1)) rfl rfl) ?_
  refine (r_iconst (pc := 1) (by decide +kernel : decode k_P_isDay.2.1 1 = .ok (.iconst 0, 1)) ic_0) ?_
  refine (r_sipush (pc := 2) (by decide +kernel : decode k_P_isDay.2.1 2 = .ok (.sipush (139), 3)) (by decide : _ = (139 : Int32))) ?_
  obtain ⟨r1, hr1, h⟩ := bp_some h
  refine (q_callS (pc := 5) (As := [.int x0, .int 0, .int 139]) (st := []) (st2 := [.int r1]) rfl rfl (by decide +kernel : decode k_P_isDay.2.1 5 = .ok (.invokestatic 117, 3)) lc_11_117 mo_P_within ⟨Nat.le_of_ble_eq_true rfl, Nat.le_of_ble_eq_true rfl⟩ (Nat.le_of_ble_eq_true rfl) (Nat.le_of_ble_eq_true rfl) (P_within_run hr1)) ?_
  obtain ⟨z2, h⟩ := gz_some h
  cases h
  exact r_zret z2 rfl (by decide +kernel : decode k_P_isDay.2.1 8 = .ok (.ireturn, 1))
set_option maxRecDepth 100000 in
set_option maxHeartbeats 4000000 in
theorem P_isWeek_run {x0 : Int32} {m : Mem} {r : Int32} (h : P_isWeek x0 = some r) : Run k_P_isWeek 0 [(0, .int x0)] [] m (some (.int r)) m := by
  unfold P_isWeek at h
  refine (r_iload_n (pc := 0) (k := 0) (by decide +kernel : decode k_P_isWeek.2.1 0 = .ok (.iload_n 0, 1)) rfl rfl) ?_
  refine (r_iconst (pc := 1) (by decide +kernel : decode k_P_isWeek.2.1 1 = .ok (.iconst 0, 1)) ic_0) ?_
  refine (r_bipush (pc := 2) (by decide +kernel : decode k_P_isWeek.2.1 2 = .ok (.bipush (19), 2)) (by decide : _ = (19 : Int32))) ?_
  obtain ⟨r1, hr1, h⟩ := bp_some h
  refine (q_callS (pc := 4) (As := [.int x0, .int 0, .int 19]) (st := []) (st2 := [.int r1]) rfl rfl (by decide +kernel : decode k_P_isWeek.2.1 4 = .ok (.invokestatic 117, 3)) lc_11_117 mo_P_within ⟨Nat.le_of_ble_eq_true rfl, Nat.le_of_ble_eq_true rfl⟩ (Nat.le_of_ble_eq_true rfl) (Nat.le_of_ble_eq_true rfl) (P_within_run hr1)) ?_
  obtain ⟨z2, h⟩ := gz_some h
  cases h
  exact r_zret z2 rfl (by decide +kernel : decode k_P_isWeek.2.1 7 = .ok (.ireturn, 1))
set_option maxRecDepth 100000 in
set_option maxHeartbeats 4000000 in
theorem P_Formula_isSo_run {x0 : Int32} {x1 : Int32} {x2 : Int32} {m : Mem} {r : Int32} (h : P_Formula_isSo x0 x1 x2 = some r) : Run k_P_Formula_isSo 0 [(0, .int x0), (1, .int x1), (2, .int x2)] [] m (some (.int r)) m := by
  unfold P_Formula_isSo at h
  refine (r_iload_n (pc := 0) (k := 0) (by decide +kernel : decode k_P_Formula_isSo.2.1 0 = .ok (.iload_n 0, 1)) rfl rfl) ?_
  rcases ite_some h with ⟨c1, h⟩ | ⟨c1, h⟩
  · refine (r_tableIn (pc := 1) (tgt := 28) (off := 27) (by decide +kernel : decode k_P_Formula_isSo.2.1 1 = .ok (.tableswitch (60) (10) (12) #[27, 38, 49], 27)) (by rw [c1]; decide) (by rw [c1]; decide) (by rw [c1]; decide +kernel) (by decide)) ?_
    refine (r_iload_n (pc := 28) (k := 1) (by decide +kernel : decode k_P_Formula_isSo.2.1 28 = .ok (.iload_n 1, 1)) rfl rfl) ?_
    refine (r_iload_n (pc := 29) (k := 2) (by decide +kernel : decode k_P_Formula_isSo.2.1 29 = .ok (.iload_n 2, 1)) rfl rfl) ?_
    rcases ite_some h with ⟨c2, h⟩ | ⟨c2, h⟩
    · refine (r_icmp_ne_f (pc := 30) 37 (by decide +kernel : decode k_P_Formula_isSo.2.1 30 = .ok (.if_icmp .ne (7), 3)) (by decide) c2) ?_
      refine (r_iconst (pc := 33) (by decide +kernel : decode k_P_Formula_isSo.2.1 33 = .ok (.iconst 1, 1)) ic_1) ?_
      refine (r_goto (pc := 34) (tgt := 38) (by decide +kernel : decode k_P_Formula_isSo.2.1 34 = .ok (.goto (4), 3)) (by decide)) ?_
      cases h
      exact r_zret (by decide) rfl (by decide +kernel : decode k_P_Formula_isSo.2.1 38 = .ok (.ireturn, 1))
    · refine (r_icmp_ne_t (pc := 30) (tgt := 37) (by decide +kernel : decode k_P_Formula_isSo.2.1 30 = .ok (.if_icmp .ne (7), 3)) (by decide) c2) ?_
      refine (r_iconst (pc := 37) (by decide +kernel : decode k_P_Formula_isSo.2.1 37 = .ok (.iconst 0, 1)) ic_0) ?_
      cases h
      exact r_zret (by decide) rfl (by decide +kernel : decode k_P_Formula_isSo.2.1 38 = .ok (.ireturn, 1))
  · skip
    rcases ite_some h with ⟨c3, h⟩ | ⟨c3, h⟩
    · refine (r_tableIn (pc := 1) (tgt := 39) (off := 38) (by decide +kernel : decode k_P_Formula_isSo.2.1 1 = .ok (.tableswitch (60) (10) (12) #[27, 38, 49], 27)) (by rw [c3]; decide) (by rw [c3]; decide) (by rw [c3]; decide +kernel) (by decide)) ?_
      refine (r_iload_n (pc := 39) (k := 1) (by decide +kernel : decode k_P_Formula_isSo.2.1 39 = .ok (.iload_n 1, 1)) rfl rfl) ?_
      refine (r_iload_n (pc := 40) (k := 2) (by decide +kernel : decode k_P_Formula_isSo.2.1 40 = .ok (.iload_n 2, 1)) rfl rfl) ?_
      rcases ite_some h with ⟨c4, h⟩ | ⟨c4, h⟩
      · refine (r_icmp_eq_t (pc := 41) (tgt := 48) (by decide +kernel : decode k_P_Formula_isSo.2.1 41 = .ok (.if_icmp .eq (7), 3)) (by decide) c4) ?_
        refine (r_iconst (pc := 48) (by decide +kernel : decode k_P_Formula_isSo.2.1 48 = .ok (.iconst 0, 1)) ic_0) ?_
        cases h
        exact r_zret (by decide) rfl (by decide +kernel : decode k_P_Formula_isSo.2.1 49 = .ok (.ireturn, 1))
      · refine (r_icmp_eq_f (pc := 41) 48 (by decide +kernel : decode k_P_Formula_isSo.2.1 41 = .ok (.if_icmp .eq (7), 3)) (by decide) c4) ?_
        refine (r_iconst (pc := 44) (by decide +kernel : decode k_P_Formula_isSo.2.1 44 = .ok (.iconst 1, 1)) ic_1) ?_
        refine (r_goto (pc := 45) (tgt := 49) (by decide +kernel : decode k_P_Formula_isSo.2.1 45 = .ok (.goto (4), 3)) (by decide)) ?_
        cases h
        exact r_zret (by decide) rfl (by decide +kernel : decode k_P_Formula_isSo.2.1 49 = .ok (.ireturn, 1))
    · skip
      rcases ite_some h with ⟨c5, h⟩ | ⟨c5, h⟩
      · refine (r_tableIn (pc := 1) (tgt := 50) (off := 49) (by decide +kernel : decode k_P_Formula_isSo.2.1 1 = .ok (.tableswitch (60) (10) (12) #[27, 38, 49], 27)) (by rw [c5]; decide) (by rw [c5]; decide) (by rw [c5]; decide +kernel) (by decide)) ?_
        refine (r_iload_n (pc := 50) (k := 1) (by decide +kernel : decode k_P_Formula_isSo.2.1 50 = .ok (.iload_n 1, 1)) rfl rfl) ?_
        refine (r_iload_n (pc := 51) (k := 2) (by decide +kernel : decode k_P_Formula_isSo.2.1 51 = .ok (.iload_n 2, 1)) rfl rfl) ?_
        rcases ite_some h with ⟨c6, h⟩ | ⟨c6, h⟩
        · refine (r_icmp_ge_t (pc := 52) (tgt := 59) (by decide +kernel : decode k_P_Formula_isSo.2.1 52 = .ok (.if_icmp .ge (7), 3)) (by decide) c6) ?_
          refine (r_iconst (pc := 59) (by decide +kernel : decode k_P_Formula_isSo.2.1 59 = .ok (.iconst 0, 1)) ic_0) ?_
          cases h
          exact r_zret (by decide) rfl (by decide +kernel : decode k_P_Formula_isSo.2.1 60 = .ok (.ireturn, 1))
        · refine (r_icmp_ge_f (pc := 52) 59 (by decide +kernel : decode k_P_Formula_isSo.2.1 52 = .ok (.if_icmp .ge (7), 3)) (by decide) c6) ?_
          refine (r_iconst (pc := 55) (by decide +kernel : decode k_P_Formula_isSo.2.1 55 = .ok (.iconst 1, 1)) ic_1) ?_
          refine (r_goto (pc := 56) (tgt := 60) (by decide +kernel : decode k_P_Formula_isSo.2.1 56 = .ok (.goto (4), 3)) (by decide)) ?_
          cases h
          exact r_zret (by decide) rfl (by decide +kernel : decode k_P_Formula_isSo.2.1 60 = .ok (.ireturn, 1))
      · skip
        have ho := tab_out (x := x0) 10 3 (by decide) (by decide) (fun k hk => by
          rcases (show k = 0 ∨ k = 1 ∨ k = 2 by omega) with rfl | rfl | rfl
          · exact fun z => c1 (z.trans (by decide))
          · exact fun z => c3 (z.trans (by decide))
          · exact fun z => c5 (z.trans (by decide)))
        refine (r_tableOut (pc := 1) (tgt := 61) (by decide +kernel : decode k_P_Formula_isSo.2.1 1 = .ok (.tableswitch (60) (10) (12) #[27, 38, 49], 27)) (by simpa using ho) (by decide)) ?_
        refine (r_iload_n (pc := 61) (k := 1) (by decide +kernel : decode k_P_Formula_isSo.2.1 61 = .ok (.iload_n 1, 1)) rfl rfl) ?_
        refine (r_iload_n (pc := 62) (k := 2) (by decide +kernel : decode k_P_Formula_isSo.2.1 62 = .ok (.iload_n 2, 1)) rfl rfl) ?_
        rcases ite_some h with ⟨c7, h⟩ | ⟨c7, h⟩
        · refine (r_icmp_gt_t (pc := 63) (tgt := 70) (by decide +kernel : decode k_P_Formula_isSo.2.1 63 = .ok (.if_icmp .gt (7), 3)) (by decide) c7) ?_
          refine (r_iconst (pc := 70) (by decide +kernel : decode k_P_Formula_isSo.2.1 70 = .ok (.iconst 0, 1)) ic_0) ?_
          cases h
          exact r_zret (by decide) rfl (by decide +kernel : decode k_P_Formula_isSo.2.1 71 = .ok (.ireturn, 1))
        · refine (r_icmp_gt_f (pc := 63) 70 (by decide +kernel : decode k_P_Formula_isSo.2.1 63 = .ok (.if_icmp .gt (7), 3)) (by decide) c7) ?_
          refine (r_iconst (pc := 66) (by decide +kernel : decode k_P_Formula_isSo.2.1 66 = .ok (.iconst 1, 1)) ic_1) ?_
          refine (r_goto (pc := 67) (tgt := 71) (by decide +kernel : decode k_P_Formula_isSo.2.1 67 = .ok (.goto (4), 3)) (by decide)) ?_
          cases h
          exact r_zret (by decide) rfl (by decide +kernel : decode k_P_Formula_isSo.2.1 71 = .ok (.ireturn, 1))
set_option maxRecDepth 100000 in
set_option maxHeartbeats 4000000 in
theorem P_Formula_joined_run {x0 : Int32} {x1 : Int32} {x2 : Int32} {m : Mem} {r : Int32} (h : P_Formula_joined x0 x1 x2 = some r) : Run k_P_Formula_joined 0 [(0, .int x0), (1, .int x1), (2, .int x2)] [] m (some (.int r)) m := by
  unfold P_Formula_joined at h
  refine (r_iload_n (pc := 0) (k := 0) (by decide +kernel : decode k_P_Formula_joined.2.1 0 = .ok (.iload_n 0, 1)) rfl rfl) ?_
  rcases ite_some h with ⟨c1, h⟩ | ⟨c1, h⟩
  · refine (r_lookup (pc := 1) (tgt := 52) (off := 51) (by decide +kernel : decode k_P_Formula_joined.2.1 1 = .ok (.lookupswitch (79) #[(6, 51), (7, 55), (8, 59), (9, 63), (57, 75)], 51)) (by decide +kernel) (by rw [c1]; decide +kernel) (by decide)) ?_
    refine (r_iload_n (pc := 52) (k := 1) (by decide +kernel : decode k_P_Formula_joined.2.1 52 = .ok (.iload_n 1, 1)) rfl rfl) ?_
    refine (r_iload_n (pc := 53) (k := 2) (by decide +kernel : decode k_P_Formula_joined.2.1 53 = .ok (.iload_n 2, 1)) rfl rfl) ?_
    refine (r_iadd (pc := 54) (by decide +kernel : decode k_P_Formula_joined.2.1 54 = .ok (.iadd, 1))) ?_
    cases h
    exact r_iret rfl (by decide +kernel : decode k_P_Formula_joined.2.1 55 = .ok (.ireturn, 1))
  · skip
    rcases ite_some h with ⟨c2, h⟩ | ⟨c2, h⟩
    · refine (r_lookup (pc := 1) (tgt := 56) (off := 55) (by decide +kernel : decode k_P_Formula_joined.2.1 1 = .ok (.lookupswitch (79) #[(6, 51), (7, 55), (8, 59), (9, 63), (57, 75)], 51)) (by decide +kernel) (by rw [c2]; decide +kernel) (by decide)) ?_
      refine (r_iload_n (pc := 56) (k := 1) (by decide +kernel : decode k_P_Formula_joined.2.1 56 = .ok (.iload_n 1, 1)) rfl rfl) ?_
      refine (r_iload_n (pc := 57) (k := 2) (by decide +kernel : decode k_P_Formula_joined.2.1 57 = .ok (.iload_n 2, 1)) rfl rfl) ?_
      refine (r_isub (pc := 58) (by decide +kernel : decode k_P_Formula_joined.2.1 58 = .ok (.isub, 1))) ?_
      cases h
      exact r_iret rfl (by decide +kernel : decode k_P_Formula_joined.2.1 59 = .ok (.ireturn, 1))
    · skip
      rcases ite_some h with ⟨c3, h⟩ | ⟨c3, h⟩
      · refine (r_lookup (pc := 1) (tgt := 60) (off := 59) (by decide +kernel : decode k_P_Formula_joined.2.1 1 = .ok (.lookupswitch (79) #[(6, 51), (7, 55), (8, 59), (9, 63), (57, 75)], 51)) (by decide +kernel) (by rw [c3]; decide +kernel) (by decide)) ?_
        refine (r_iload_n (pc := 60) (k := 1) (by decide +kernel : decode k_P_Formula_joined.2.1 60 = .ok (.iload_n 1, 1)) rfl rfl) ?_
        refine (r_iload_n (pc := 61) (k := 2) (by decide +kernel : decode k_P_Formula_joined.2.1 61 = .ok (.iload_n 2, 1)) rfl rfl) ?_
        refine (r_imul (pc := 62) (by decide +kernel : decode k_P_Formula_joined.2.1 62 = .ok (.imul, 1))) ?_
        cases h
        exact r_iret rfl (by decide +kernel : decode k_P_Formula_joined.2.1 63 = .ok (.ireturn, 1))
      · skip
        rcases ite_some h with ⟨c4, h⟩ | ⟨c4, h⟩
        · refine (r_lookup (pc := 1) (tgt := 64) (off := 63) (by decide +kernel : decode k_P_Formula_joined.2.1 1 = .ok (.lookupswitch (79) #[(6, 51), (7, 55), (8, 59), (9, 63), (57, 75)], 51)) (by decide +kernel) (by rw [c4]; decide +kernel) (by decide)) ?_
          refine (r_iload_n (pc := 64) (k := 2) (by decide +kernel : decode k_P_Formula_joined.2.1 64 = .ok (.iload_n 2, 1)) rfl rfl) ?_
          rcases ite_some h with ⟨c5, h⟩ | ⟨c5, h⟩
          · refine (r_if_ne_f (pc := 65) 72 (by decide +kernel : decode k_P_Formula_joined.2.1 65 = .ok (.ifCond .ne (7), 3)) (by decide) c5) ?_
            refine (r_iconst (pc := 68) (by decide +kernel : decode k_P_Formula_joined.2.1 68 = .ok (.iconst 0, 1)) ic_0) ?_
            refine (r_goto (pc := 69) (tgt := 75) (by decide +kernel : decode k_P_Formula_joined.2.1 69 = .ok (.goto (6), 3)) (by decide)) ?_
            cases h
            exact r_iret rfl (by decide +kernel : decode k_P_Formula_joined.2.1 75 = .ok (.ireturn, 1))
          · refine (r_if_ne_t (pc := 65) (tgt := 72) (by decide +kernel : decode k_P_Formula_joined.2.1 65 = .ok (.ifCond .ne (7), 3)) (by decide) c5) ?_
            refine (r_iload_n (pc := 72) (k := 1) (by decide +kernel : decode k_P_Formula_joined.2.1 72 = .ok (.iload_n 1, 1)) rfl rfl) ?_
            refine (r_iload_n (pc := 73) (k := 2) (by decide +kernel : decode k_P_Formula_joined.2.1 73 = .ok (.iload_n 2, 1)) rfl rfl) ?_
            obtain ⟨g6, h⟩ := gn_some h
            refine (r_idiv (pc := 74) (by decide +kernel : decode k_P_Formula_joined.2.1 74 = .ok (.idiv, 1)) g6) ?_
            cases h
            exact r_iret rfl (by decide +kernel : decode k_P_Formula_joined.2.1 75 = .ok (.ireturn, 1))
        · skip
          rcases ite_some h with ⟨c7, h⟩ | ⟨c7, h⟩
          · refine (r_lookup (pc := 1) (tgt := 76) (off := 75) (by decide +kernel : decode k_P_Formula_joined.2.1 1 = .ok (.lookupswitch (79) #[(6, 51), (7, 55), (8, 59), (9, 63), (57, 75)], 51)) (by decide +kernel) (by rw [c7]; decide +kernel) (by decide)) ?_
            refine (r_iload_n (pc := 76) (k := 1) (by decide +kernel : decode k_P_Formula_joined.2.1 76 = .ok (.iload_n 1, 1)) rfl rfl) ?_
            refine (r_iload_n (pc := 77) (k := 2) (by decide +kernel : decode k_P_Formula_joined.2.1 77 = .ok (.iload_n 2, 1)) rfl rfl) ?_
            refine (r_iand (pc := 78) (by decide +kernel : decode k_P_Formula_joined.2.1 78 = .ok (.iand, 1))) ?_
            cases h
            exact r_iret rfl (by decide +kernel : decode k_P_Formula_joined.2.1 79 = .ok (.ireturn, 1))
          · skip
            refine (r_lookup (pc := 1) (tgt := 80) (off := 79) (by decide +kernel : decode k_P_Formula_joined.2.1 1 = .ok (.lookupswitch (79) #[(6, 51), (7, 55), (8, 59), (9, 63), (57, 75)], 51)) (by decide +kernel) (by exact (lk_cons (fun z => c1 (z.trans (by decide))) (lk_cons (fun z => c2 (z.trans (by decide))) (lk_cons (fun z => c3 (z.trans (by decide))) (lk_cons (fun z => c4 (z.trans (by decide))) (lk_cons (fun z => c7 (z.trans (by decide))) rfl)))))) (by decide)) ?_
            refine (r_iload_n (pc := 80) (k := 1) (by decide +kernel : decode k_P_Formula_joined.2.1 80 = .ok (.iload_n 1, 1)) rfl rfl) ?_
            refine (r_iload_n (pc := 81) (k := 2) (by decide +kernel : decode k_P_Formula_joined.2.1 81 = .ok (.iload_n 2, 1)) rfl rfl) ?_
            refine (r_ior (pc := 82) (by decide +kernel : decode k_P_Formula_joined.2.1 82 = .ok (.ior, 1))) ?_
            cases h
            exact r_iret rfl (by decide +kernel : decode k_P_Formula_joined.2.1 83 = .ok (.ireturn, 1))
set_option maxRecDepth 100000 in
set_option maxHeartbeats 4000000 in
theorem P_held_run {x0 : Int32} {x1 : Int32} {x2 : Int32} {m : Mem} {r : Int32} (h : P_held x0 x1 x2 = some r) : Run k_P_held 0 [(0, .int x0), (1, .int x1), (2, .int x2)] [] m (some (.int r)) m := by
  unfold P_held at h
  refine (r_iload_n (pc := 0) (k := 1) (by decide +kernel : decode k_P_held.2.1 0 = .ok (.iload_n 1, 1)) rfl rfl) ?_
  refine (r_iload_n (pc := 1) (k := 2) (by decide +kernel : decode k_P_held.2.1 1 = .ok (.iload_n 2, 1)) rfl rfl) ?_
  refine (r_iload_n (pc := 2) (k := 0) (by decide +kernel : decode k_P_held.2.1 2 = .ok (.iload_n 0, 1)) rfl rfl) ?_
  refine (r_mmin (pc := 3) (by decide +kernel : decode k_P_held.2.1 3 = .ok (.invokestatic 367, 3)) lm_11_367 lm_mmin_st lm_math lm_mmin_cd ⟨by decide, by decide⟩ (Nat.le_of_ble_eq_true rfl)) ?_
  refine (r_mmax (pc := 6) (by decide +kernel : decode k_P_held.2.1 6 = .ok (.invokestatic 321, 3)) lm_11_321 lm_mmax_st lm_math lm_mmax_cd ⟨by decide, by decide⟩ (Nat.le_of_ble_eq_true rfl)) ?_
  cases h
  exact r_iret rfl (by decide +kernel : decode k_P_held.2.1 9 = .ok (.ireturn, 1))
set_option maxRecDepth 100000 in
set_option maxHeartbeats 4000000 in
theorem J_bitCount_run {x0 : Int32} {m : Mem} {r : Int32} (h : J_bitCount x0 = some r) : Run k_J_bitCount 0 [(0, .int x0)] [] m (some (.int r)) m := by
  unfold J_bitCount at h
  refine (r_iload_n (pc := 0) (k := 0) (by decide +kernel : decode k_J_bitCount.2.1 0 = .ok (.iload_n 0, 1)) rfl rfl) ?_
  refine (r_iload_n (pc := 1) (k := 0) (by decide +kernel : decode k_J_bitCount.2.1 1 = .ok (.iload_n 0, 1)) rfl rfl) ?_
  refine (r_iconst (pc := 2) (by decide +kernel : decode k_J_bitCount.2.1 2 = .ok (.iconst 1, 1)) ic_1) ?_
  refine (r_iushr (pc := 3) (by decide +kernel : decode k_J_bitCount.2.1 3 = .ok (.iushr, 1))) ?_
  refine (r_ldc_w (pc := 4) (by decide +kernel : decode k_J_bitCount.2.1 4 = .ok (.ldc_w 265, 3)) lk_N_265) ?_
  refine (r_iand (pc := 7) (by decide +kernel : decode k_J_bitCount.2.1 7 = .ok (.iand, 1))) ?_
  refine (r_isub (pc := 8) (by decide +kernel : decode k_J_bitCount.2.1 8 = .ok (.isub, 1))) ?_
  obtain ⟨v1, hv1, h⟩ := vb_some h
  refine (e_istore_n (pc := 9) hv1 (by decide +kernel : decode k_J_bitCount.2.1 9 = .ok (.istore_n 0, 1)) rfl (by decide) rfl) ?_
  refine (r_iload_n (pc := 10) (k := 0) (by decide +kernel : decode k_J_bitCount.2.1 10 = .ok (.iload_n 0, 1)) rfl rfl) ?_
  refine (r_ldc_w (pc := 11) (by decide +kernel : decode k_J_bitCount.2.1 11 = .ok (.ldc_w 266, 3)) lk_N_266) ?_
  refine (r_iand (pc := 14) (by decide +kernel : decode k_J_bitCount.2.1 14 = .ok (.iand, 1))) ?_
  refine (r_iload_n (pc := 15) (k := 0) (by decide +kernel : decode k_J_bitCount.2.1 15 = .ok (.iload_n 0, 1)) rfl rfl) ?_
  refine (r_iconst (pc := 16) (by decide +kernel : decode k_J_bitCount.2.1 16 = .ok (.iconst 2, 1)) ic_2) ?_
  refine (r_iushr (pc := 17) (by decide +kernel : decode k_J_bitCount.2.1 17 = .ok (.iushr, 1))) ?_
  refine (r_ldc_w (pc := 18) (by decide +kernel : decode k_J_bitCount.2.1 18 = .ok (.ldc_w 266, 3)) lk_N_266) ?_
  refine (r_iand (pc := 21) (by decide +kernel : decode k_J_bitCount.2.1 21 = .ok (.iand, 1))) ?_
  refine (r_iadd (pc := 22) (by decide +kernel : decode k_J_bitCount.2.1 22 = .ok (.iadd, 1))) ?_
  obtain ⟨v2, hv2, h⟩ := vb_some h
  refine (e_istore_n (pc := 23) hv2 (by decide +kernel : decode k_J_bitCount.2.1 23 = .ok (.istore_n 0, 1)) rfl (by decide) rfl) ?_
  refine (r_iload_n (pc := 24) (k := 0) (by decide +kernel : decode k_J_bitCount.2.1 24 = .ok (.iload_n 0, 1)) rfl rfl) ?_
  refine (r_iload_n (pc := 25) (k := 0) (by decide +kernel : decode k_J_bitCount.2.1 25 = .ok (.iload_n 0, 1)) rfl rfl) ?_
  refine (r_iconst (pc := 26) (by decide +kernel : decode k_J_bitCount.2.1 26 = .ok (.iconst 4, 1)) ic_4) ?_
  refine (r_iushr (pc := 27) (by decide +kernel : decode k_J_bitCount.2.1 27 = .ok (.iushr, 1))) ?_
  refine (r_iadd (pc := 28) (by decide +kernel : decode k_J_bitCount.2.1 28 = .ok (.iadd, 1))) ?_
  refine (r_ldc_w (pc := 29) (by decide +kernel : decode k_J_bitCount.2.1 29 = .ok (.ldc_w 267, 3)) lk_N_267) ?_
  refine (r_iand (pc := 32) (by decide +kernel : decode k_J_bitCount.2.1 32 = .ok (.iand, 1))) ?_
  obtain ⟨v3, hv3, h⟩ := vb_some h
  refine (e_istore_n (pc := 33) hv3 (by decide +kernel : decode k_J_bitCount.2.1 33 = .ok (.istore_n 0, 1)) rfl (by decide) rfl) ?_
  refine (r_iload_n (pc := 34) (k := 0) (by decide +kernel : decode k_J_bitCount.2.1 34 = .ok (.iload_n 0, 1)) rfl rfl) ?_
  refine (r_iload_n (pc := 35) (k := 0) (by decide +kernel : decode k_J_bitCount.2.1 35 = .ok (.iload_n 0, 1)) rfl rfl) ?_
  refine (r_bipush (pc := 36) (by decide +kernel : decode k_J_bitCount.2.1 36 = .ok (.bipush (8), 2)) (by decide : _ = (8 : Int32))) ?_
  refine (r_iushr (pc := 38) (by decide +kernel : decode k_J_bitCount.2.1 38 = .ok (.iushr, 1))) ?_
  refine (r_iadd (pc := 39) (by decide +kernel : decode k_J_bitCount.2.1 39 = .ok (.iadd, 1))) ?_
  obtain ⟨v4, hv4, h⟩ := vb_some h
  refine (e_istore_n (pc := 40) hv4 (by decide +kernel : decode k_J_bitCount.2.1 40 = .ok (.istore_n 0, 1)) rfl (by decide) rfl) ?_
  refine (r_iload_n (pc := 41) (k := 0) (by decide +kernel : decode k_J_bitCount.2.1 41 = .ok (.iload_n 0, 1)) rfl rfl) ?_
  refine (r_iload_n (pc := 42) (k := 0) (by decide +kernel : decode k_J_bitCount.2.1 42 = .ok (.iload_n 0, 1)) rfl rfl) ?_
  refine (r_bipush (pc := 43) (by decide +kernel : decode k_J_bitCount.2.1 43 = .ok (.bipush (16), 2)) (by decide : _ = (16 : Int32))) ?_
  refine (r_iushr (pc := 45) (by decide +kernel : decode k_J_bitCount.2.1 45 = .ok (.iushr, 1))) ?_
  refine (r_iadd (pc := 46) (by decide +kernel : decode k_J_bitCount.2.1 46 = .ok (.iadd, 1))) ?_
  obtain ⟨v5, hv5, h⟩ := vb_some h
  refine (e_istore_n (pc := 47) hv5 (by decide +kernel : decode k_J_bitCount.2.1 47 = .ok (.istore_n 0, 1)) rfl (by decide) rfl) ?_
  refine (r_iload_n (pc := 48) (k := 0) (by decide +kernel : decode k_J_bitCount.2.1 48 = .ok (.iload_n 0, 1)) rfl rfl) ?_
  refine (r_bipush (pc := 49) (by decide +kernel : decode k_J_bitCount.2.1 49 = .ok (.bipush (63), 2)) (by decide : _ = (63 : Int32))) ?_
  refine (r_iand (pc := 51) (by decide +kernel : decode k_J_bitCount.2.1 51 = .ok (.iand, 1))) ?_
  cases h
  exact r_iret rfl (by decide +kernel : decode k_J_bitCount.2.1 52 = .ok (.ireturn, 1))
