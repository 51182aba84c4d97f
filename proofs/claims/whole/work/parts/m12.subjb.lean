/-! written by gen/emit.py -/
theorem vrs (a : Nat) : va_rf (some a) = .ref a := rfl
theorem cti (x : Int32) : (Value.int x).category = 1 := rfl
theorem ctl (x : Int64) : (Value.long x).category = 2 := rfl
theorem ctr (x : Nat) : (Value.ref x).category = 1 := rfl
theorem cta (x : Nat) : (Value.retAddr x).category = 1 := rfl
theorem ctn : Value.null.category = 1 := rfl
set_option maxRecDepth 100000 in
set_option maxHeartbeats 4000000 in
theorem P_Formula_goOnWithSign_212_run {x1 : Int32} {m m' : Mem} {r : Int32} (hL : PL m) (h : P_Formula_goOnWithSign_212 x1 m = some (r, m')) : Run k_P_Formula_goOnWithSign 212 [(0, .ref 1), (1, .int x1)] [] m (some (.int r)) m' ∧ PL m' := by
  unfold P_Formula_goOnWithSign_212 at h
  refine ai (p_aload_n (pc := 212) (k := 0) (by decide +kernel : decode k_P_Formula_goOnWithSign.2.1 212 = .ok (.aload_n 0, 1)) rfl rfl) ?_
  refine ai (r_iload_n (pc := 213) (k := 1) (by decide +kernel : decode k_P_Formula_goOnWithSign.2.1 213 = .ok (.iload_n 1, 1)) rfl rfl) ?_
  obtain ⟨r1, hr1, h⟩ := bp_some h
  refine ai (q_callS (pc := 214) (As := [.int x1]) (st := [.ref 1]) (st2 := [.int r1, .ref 1]) rfl rfl (by decide +kernel : decode k_P_Formula_goOnWithSign.2.1 214 = .ok (.invokestatic 65, 3)) lc_1_65 mo_P_Formula_rankOf ⟨Nat.le_of_ble_eq_true rfl, Nat.le_of_ble_eq_true rfl⟩ (Nat.le_of_ble_eq_true rfl) (Nat.le_of_ble_eq_true rfl) (P_Formula_rankOf_run hr1)) ?_
  obtain ⟨r2, m3, hr2, h⟩ := bn_some h
  have q4 := P_Formula_settle_run hL hr2
  have c5 := (PC_1 hL).1
  have hL := q4.2
  refine ai (q_callV (pc := 217) (As := [.int r1]) (st := []) (st2 := []) (b := 1) rfl rfl (by decide +kernel : decode k_P_Formula_goOnWithSign.2.1 217 = .ok (.invokevirtual 69, 3)) lc_1_69 mo_P_Formula_settle ⟨Nat.le_of_ble_eq_true rfl, Nat.le_of_ble_eq_true rfl⟩ (Nat.le_of_ble_eq_true rfl) (Nat.le_of_ble_eq_true rfl) c5 q4.1) ?_
  refine ai (p_aload_n (pc := 220) (k := 0) (by decide +kernel : decode k_P_Formula_goOnWithSign.2.1 220 = .ok (.aload_n 0, 1)) rfl rfl) ?_
  refine ai (r_iload_n (pc := 221) (k := 1) (by decide +kernel : decode k_P_Formula_goOnWithSign.2.1 221 = .ok (.iload_n 1, 1)) rfl rfl) ?_
  refine ai (r_iload_n (pc := 222) (k := 1) (by decide +kernel : decode k_P_Formula_goOnWithSign.2.1 222 = .ok (.iload_n 1, 1)) rfl rfl) ?_
  obtain ⟨r6, hr6, h⟩ := bp_some h
  refine ai (q_callS (pc := 223) (As := [.int x1]) (st := [.int x1, .ref 1]) (st2 := [.int r6, .int x1, .ref 1]) rfl rfl (by decide +kernel : decode k_P_Formula_goOnWithSign.2.1 223 = .ok (.invokestatic 65, 3)) lc_1_65 mo_P_Formula_rankOf ⟨Nat.le_of_ble_eq_true rfl, Nat.le_of_ble_eq_true rfl⟩ (Nat.le_of_ble_eq_true rfl) (Nat.le_of_ble_eq_true rfl) (P_Formula_rankOf_run hr6)) ?_
  obtain ⟨r7, m8, hr7, h⟩ := bn_some h
  have q9 := P_Formula_putOff_run hL hr7
  have c10 := (PC_1 hL).1
  have hL := q9.2
  refine ai (q_callV (pc := 226) (As := [.int x1, .int r6]) (st := []) (st2 := []) (b := 1) rfl rfl (by decide +kernel : decode k_P_Formula_goOnWithSign.2.1 226 = .ok (.invokevirtual 54, 3)) lc_1_54 mo_P_Formula_putOff ⟨Nat.le_of_ble_eq_true rfl, Nat.le_of_ble_eq_true rfl⟩ (Nat.le_of_ble_eq_true rfl) (Nat.le_of_ble_eq_true rfl) c10 q9.1) ?_
  refine ai (p_aload_n (pc := 229) (k := 0) (by decide +kernel : decode k_P_Formula_goOnWithSign.2.1 229 = .ok (.aload_n 0, 1)) rfl rfl) ?_
  refine ai (r_iconst (pc := 230) (by decide +kernel : decode k_P_Formula_goOnWithSign.2.1 230 = .ok (.iconst 0, 1)) ic_0) ?_
  have c11 := (PC_1 hL).1
  obtain ⟨m12, hm12, h⟩ := vb_some h
  have hL : PL m12 := by rw [hm12]; exact hL
  refine ai (p_putZ (pc := 231) hm12 (by decide) (by decide +kernel : decode k_P_Formula_goOnWithSign.2.1 231 = .ok (.putfield 32, 3)) lp_1_32 c11) ?_
  refine ai (p_aload_n (pc := 234) (k := 0) (by decide +kernel : decode k_P_Formula_goOnWithSign.2.1 234 = .ok (.aload_n 0, 1)) rfl rfl) ?_
  refine ai (r_iconst (pc := 235) (by decide +kernel : decode k_P_Formula_goOnWithSign.2.1 235 = .ok (.iconst 0, 1)) ic_0) ?_
  have c13 := (PC_1 hL).1
  obtain ⟨m14, hm14, h⟩ := vb_some h
  have hL : PL m14 := by rw [hm14]; exact hL
  refine ai (p_putI (pc := 236) hm14 (by decide +kernel : decode k_P_Formula_goOnWithSign.2.1 236 = .ok (.putfield 25, 3)) lp_1_25 c13) ?_
  refine ai (r_iconst (pc := 239) (by decide +kernel : decode k_P_Formula_goOnWithSign.2.1 239 = .ok (.iconst 0, 1)) ic_0) ?_
  cases h
  exact ⟨r_iret rfl (by decide +kernel : decode k_P_Formula_goOnWithSign.2.1 240 = .ok (.ireturn, 1)), hL⟩
set_option maxRecDepth 100000 in
set_option maxHeartbeats 4000000 in
theorem P_Formula_goOnWithSign_241_run {m m' : Mem} {r : Int32} (hL : PL m) (h : P_Formula_goOnWithSign_241 m = some (r, m')) : Run k_P_Formula_goOnWithSign 241 [(0, .ref 1)] [] m (some (.int r)) m' ∧ PL m' := by
  unfold P_Formula_goOnWithSign_241 at h
  refine ai (p_aload_n (pc := 241) (k := 0) (by decide +kernel : decode k_P_Formula_goOnWithSign.2.1 241 = .ok (.aload_n 0, 1)) rfl rfl) ?_
  refine ai (r_iconst (pc := 242) (by decide +kernel : decode k_P_Formula_goOnWithSign.2.1 242 = .ok (.iconst 1, 1)) ic_1) ?_
  obtain ⟨r1, m2, hr1, h⟩ := bn_some h
  have q3 := P_Formula_settle_run hL hr1
  have c4 := (PC_1 hL).1
  have hL := q3.2
  refine ai (q_callV (pc := 243) (As := [.int 1]) (st := []) (st2 := []) (b := 1) rfl rfl (by decide +kernel : decode k_P_Formula_goOnWithSign.2.1 243 = .ok (.invokevirtual 69, 3)) lc_1_69 mo_P_Formula_settle ⟨Nat.le_of_ble_eq_true rfl, Nat.le_of_ble_eq_true rfl⟩ (Nat.le_of_ble_eq_true rfl) (Nat.le_of_ble_eq_true rfl) c4 q3.1) ?_
  refine ai (p_aload_n (pc := 246) (k := 0) (by decide +kernel : decode k_P_Formula_goOnWithSign.2.1 246 = .ok (.aload_n 0, 1)) rfl rfl) ?_
  refine ai (r_iconst (pc := 247) (by decide +kernel : decode k_P_Formula_goOnWithSign.2.1 247 = .ok (.iconst 1, 1)) ic_1) ?_
  have c5 := (PC_1 hL).1
  obtain ⟨m6, hm6, h⟩ := vb_some h
  have hL : PL m6 := by rw [hm6]; exact hL
  refine ai (p_putZ (pc := 248) hm6 (by decide) (by decide +kernel : decode k_P_Formula_goOnWithSign.2.1 248 = .ok (.putfield 35, 3)) lp_1_35 c5) ?_
  refine ai (r_iconst (pc := 251) (by decide +kernel : decode k_P_Formula_goOnWithSign.2.1 251 = .ok (.iconst 0, 1)) ic_0) ?_
  cases h
  exact ⟨r_iret rfl (by decide +kernel : decode k_P_Formula_goOnWithSign.2.1 252 = .ok (.ireturn, 1)), hL⟩
set_option maxRecDepth 100000 in
set_option maxHeartbeats 4000000 in
theorem P_Formula_goOnWithSign_193_run {x1 : Int32} {m m' : Mem} {r : Int32} (hL : PL m) (h : P_Formula_goOnWithSign_193 x1 m = some (r, m')) : Run k_P_Formula_goOnWithSign 193 [(0, .ref 1), (1, .int x1)] [] m (some (.int r)) m' ∧ PL m' := by
  unfold P_Formula_goOnWithSign_193 at h
  refine ai (p_aload_n (pc := 193) (k := 0) (by decide +kernel : decode k_P_Formula_goOnWithSign.2.1 193 = .ok (.aload_n 0, 1)) rfl rfl) ?_
  refine ai (r_getI (pc := 194) (by decide +kernel : decode k_P_Formula_goOnWithSign.2.1 194 = .ok (.getfield 21, 3)) lg_1_21 (by decide) (PC_1 hL).1) ?_
  rcases ite_some h with ⟨c1, h⟩ | ⟨c1, h⟩
  · refine ai (r_if_eq_t (pc := 197) (tgt := 241) (by decide +kernel : decode k_P_Formula_goOnWithSign.2.1 197 = .ok (.ifCond .eq (44), 3)) (by decide) c1) ?_
    exact (ai (r_sub [0] rfl) (P_Formula_goOnWithSign_241_run hL h))
  · refine ai (r_if_eq_f (pc := 197) 241 (by decide +kernel : decode k_P_Formula_goOnWithSign.2.1 197 = .ok (.ifCond .eq (44), 3)) (by decide) c1) ?_
    refine ai (r_iload_n (pc := 200) (k := 1) (by decide +kernel : decode k_P_Formula_goOnWithSign.2.1 200 = .ok (.iload_n 1, 1)) rfl rfl) ?_
    refine ai (r_bipush (pc := 201) (by decide +kernel : decode k_P_Formula_goOnWithSign.2.1 201 = .ok (.bipush (57), 2)) (by decide : _ = (57 : Int32))) ?_
    rcases ite_some h with ⟨c2, h⟩ | ⟨c2, h⟩
    · refine ai (r_icmp_eq_t (pc := 203) (tgt := 212) (by decide +kernel : decode k_P_Formula_goOnWithSign.2.1 203 = .ok (.if_icmp .eq (9), 3)) (by decide) c2) ?_
      exact (P_Formula_goOnWithSign_212_run hL h)
    · refine ai (r_icmp_eq_f (pc := 203) 212 (by decide +kernel : decode k_P_Formula_goOnWithSign.2.1 203 = .ok (.if_icmp .eq (9), 3)) (by decide) c2) ?_
      refine ai (r_iload_n (pc := 206) (k := 1) (by decide +kernel : decode k_P_Formula_goOnWithSign.2.1 206 = .ok (.iload_n 1, 1)) rfl rfl) ?_
      refine ai (r_bipush (pc := 207) (by decide +kernel : decode k_P_Formula_goOnWithSign.2.1 207 = .ok (.bipush (56), 2)) (by decide : _ = (56 : Int32))) ?_
      rcases ite_some h with ⟨c3, h⟩ | ⟨c3, h⟩
      · refine ai (r_icmp_ne_f (pc := 209) 241 (by decide +kernel : decode k_P_Formula_goOnWithSign.2.1 209 = .ok (.if_icmp .ne (32), 3)) (by decide) c3) ?_
        exact (P_Formula_goOnWithSign_212_run hL h)
      · refine ai (r_icmp_ne_t (pc := 209) (tgt := 241) (by decide +kernel : decode k_P_Formula_goOnWithSign.2.1 209 = .ok (.if_icmp .ne (32), 3)) (by decide) c3) ?_
        exact (ai (r_sub [0] rfl) (P_Formula_goOnWithSign_241_run hL h))
set_option maxRecDepth 100000 in
set_option maxHeartbeats 4000000 in
theorem P_Formula_goOnWithSign_166_run {x1 : Int32} {x2 : Int32} {m m' : Mem} {r : Int32} (hL : PL m) (h : P_Formula_goOnWithSign_166 x1 x2 m = some (r, m')) : Run k_P_Formula_goOnWithSign 166 [(0, .ref 1), (1, .int x1), (2, .int x2)] [] m (some (.int r)) m' ∧ PL m' := by
  unfold P_Formula_goOnWithSign_166 at h
  refine ai (p_aload_n (pc := 166) (k := 0) (by decide +kernel : decode k_P_Formula_goOnWithSign.2.1 166 = .ok (.aload_n 0, 1)) rfl rfl) ?_
  refine ai (r_getI (pc := 167) (by decide +kernel : decode k_P_Formula_goOnWithSign.2.1 167 = .ok (.getfield 29, 3)) lg_1_29 (by decide) (PC_1 hL).1) ?_
  rcases ite_some h with ⟨c1, h⟩ | ⟨c1, h⟩
  · refine ai (r_if_gt_t (pc := 170) (tgt := 191) (by decide +kernel : decode k_P_Formula_goOnWithSign.2.1 170 = .ok (.ifCond .gt (21), 3)) (by decide) c1) ?_
    refine ai (r_iconst (pc := 191) (by decide +kernel : decode k_P_Formula_goOnWithSign.2.1 191 = .ok (.iconst 1, 1)) ic_1) ?_
    cases h
    exact ⟨r_iret rfl (by decide +kernel : decode k_P_Formula_goOnWithSign.2.1 192 = .ok (.ireturn, 1)), hL⟩
  · refine ai (r_if_gt_f (pc := 170) 191 (by decide +kernel : decode k_P_Formula_goOnWithSign.2.1 170 = .ok (.ifCond .gt (21), 3)) (by decide) c1) ?_
    refine ai (r_iload_n (pc := 173) (k := 2) (by decide +kernel : decode k_P_Formula_goOnWithSign.2.1 173 = .ok (.iload_n 2, 1)) rfl rfl) ?_
    rcases ite_some h with ⟨c2, h⟩ | ⟨c2, h⟩
    · refine ai (r_if_eq_t (pc := 174) (tgt := 193) (by decide +kernel : decode k_P_Formula_goOnWithSign.2.1 174 = .ok (.ifCond .eq (19), 3)) (by decide) c2) ?_
      exact (ai (r_sub [0, 1] rfl) (P_Formula_goOnWithSign_193_run hL h))
    · refine ai (r_if_eq_f (pc := 174) 193 (by decide +kernel : decode k_P_Formula_goOnWithSign.2.1 174 = .ok (.ifCond .eq (19), 3)) (by decide) c2) ?_
      refine ai (p_aload_n (pc := 177) (k := 0) (by decide +kernel : decode k_P_Formula_goOnWithSign.2.1 177 = .ok (.aload_n 0, 1)) rfl rfl) ?_
      refine ai (r_getI (pc := 178) (by decide +kernel : decode k_P_Formula_goOnWithSign.2.1 178 = .ok (.getfield 21, 3)) lg_1_21 (by decide) (PC_1 hL).1) ?_
      rcases ite_some h with ⟨c3, h⟩ | ⟨c3, h⟩
      · refine ai (r_if_eq_t (pc := 181) (tgt := 193) (by decide +kernel : decode k_P_Formula_goOnWithSign.2.1 181 = .ok (.ifCond .eq (12), 3)) (by decide) c3) ?_
        exact (ai (r_sub [0, 1] rfl) (P_Formula_goOnWithSign_193_run hL h))
      · refine ai (r_if_eq_f (pc := 181) 193 (by decide +kernel : decode k_P_Formula_goOnWithSign.2.1 181 = .ok (.ifCond .eq (12), 3)) (by decide) c3) ?_
        refine ai (p_aload_n (pc := 184) (k := 0) (by decide +kernel : decode k_P_Formula_goOnWithSign.2.1 184 = .ok (.aload_n 0, 1)) rfl rfl) ?_
        refine ai (r_getI (pc := 185) (by decide +kernel : decode k_P_Formula_goOnWithSign.2.1 185 = .ok (.getfield 32, 3)) lg_1_32 (by decide) (PC_1 hL).1) ?_
        rcases ite_some h with ⟨c4, h⟩ | ⟨c4, h⟩
        · refine ai (r_if_ne_f (pc := 188) 193 (by decide +kernel : decode k_P_Formula_goOnWithSign.2.1 188 = .ok (.ifCond .ne (5), 3)) (by decide) c4) ?_
          refine ai (r_iconst (pc := 191) (by decide +kernel : decode k_P_Formula_goOnWithSign.2.1 191 = .ok (.iconst 1, 1)) ic_1) ?_
          cases h
          exact ⟨r_iret rfl (by decide +kernel : decode k_P_Formula_goOnWithSign.2.1 192 = .ok (.ireturn, 1)), hL⟩
        · refine ai (r_if_ne_t (pc := 188) (tgt := 193) (by decide +kernel : decode k_P_Formula_goOnWithSign.2.1 188 = .ok (.ifCond .ne (5), 3)) (by decide) c4) ?_
          exact (ai (r_sub [0, 1] rfl) (P_Formula_goOnWithSign_193_run hL h))
set_option maxRecDepth 100000 in
set_option maxHeartbeats 4000000 in
theorem P_Formula_goOnWithSign_101_run {x1 : Int32} {x2 : Int32} {m m' : Mem} {r : Int32} (hL : PL m) (h : P_Formula_goOnWithSign_101 x1 x2 m = some (r, m')) : Run k_P_Formula_goOnWithSign 101 [(0, .ref 1), (1, .int x1), (2, .int x2)] [] m (some (.int r)) m' ∧ PL m' := by
  unfold P_Formula_goOnWithSign_101 at h
  refine ai (r_iload_n (pc := 101) (k := 2) (by decide +kernel : decode k_P_Formula_goOnWithSign.2.1 101 = .ok (.iload_n 2, 1)) rfl rfl) ?_
  rcases ite_some h with ⟨c1, h⟩ | ⟨c1, h⟩
  · refine ai (r_if_eq_t (pc := 102) (tgt := 166) (by decide +kernel : decode k_P_Formula_goOnWithSign.2.1 102 = .ok (.ifCond .eq (64), 3)) (by decide) c1) ?_
    exact (P_Formula_goOnWithSign_166_run hL h)
  · refine ai (r_if_eq_f (pc := 102) 166 (by decide +kernel : decode k_P_Formula_goOnWithSign.2.1 102 = .ok (.ifCond .eq (64), 3)) (by decide) c1) ?_
    refine ai (p_aload_n (pc := 105) (k := 0) (by decide +kernel : decode k_P_Formula_goOnWithSign.2.1 105 = .ok (.aload_n 0, 1)) rfl rfl) ?_
    refine ai (r_getI (pc := 106) (by decide +kernel : decode k_P_Formula_goOnWithSign.2.1 106 = .ok (.getfield 21, 3)) lg_1_21 (by decide) (PC_1 hL).1) ?_
    rcases ite_some h with ⟨c2, h⟩ | ⟨c2, h⟩
    · refine ai (r_if_eq_t (pc := 109) (tgt := 166) (by decide +kernel : decode k_P_Formula_goOnWithSign.2.1 109 = .ok (.ifCond .eq (57), 3)) (by decide) c2) ?_
      exact (P_Formula_goOnWithSign_166_run hL h)
    · refine ai (r_if_eq_f (pc := 109) 166 (by decide +kernel : decode k_P_Formula_goOnWithSign.2.1 109 = .ok (.ifCond .eq (57), 3)) (by decide) c2) ?_
      refine ai (p_aload_n (pc := 112) (k := 0) (by decide +kernel : decode k_P_Formula_goOnWithSign.2.1 112 = .ok (.aload_n 0, 1)) rfl rfl) ?_
      refine ai (r_getI (pc := 113) (by decide +kernel : decode k_P_Formula_goOnWithSign.2.1 113 = .ok (.getfield 32, 3)) lg_1_32 (by decide) (PC_1 hL).1) ?_
      rcases ite_some h with ⟨c3, h⟩ | ⟨c3, h⟩
      · refine ai (r_if_ne_f (pc := 116) 166 (by decide +kernel : decode k_P_Formula_goOnWithSign.2.1 116 = .ok (.ifCond .ne (50), 3)) (by decide) c3) ?_
        refine ai (p_aload_n (pc := 119) (k := 0) (by decide +kernel : decode k_P_Formula_goOnWithSign.2.1 119 = .ok (.aload_n 0, 1)) rfl rfl) ?_
        refine ai (r_getI (pc := 120) (by decide +kernel : decode k_P_Formula_goOnWithSign.2.1 120 = .ok (.getfield 29, 3)) lg_1_29 (by decide) (PC_1 hL).1) ?_
        rcases ite_some h with ⟨c4, h⟩ | ⟨c4, h⟩
        · refine ai (r_if_ne_f (pc := 123) 166 (by decide +kernel : decode k_P_Formula_goOnWithSign.2.1 123 = .ok (.ifCond .ne (43), 3)) (by decide) c4) ?_
          refine ai (r_iload_n (pc := 126) (k := 1) (by decide +kernel : decode k_P_Formula_goOnWithSign.2.1 126 = .ok (.iload_n 1, 1)) rfl rfl) ?_
          refine ai (r_bipush (pc := 127) (by decide +kernel : decode k_P_Formula_goOnWithSign.2.1 127 = .ok (.bipush (10), 2)) (by decide : _ = (10 : Int32))) ?_
          refine ai (r_bipush (pc := 129) (by decide +kernel : decode k_P_Formula_goOnWithSign.2.1 129 = .ok (.bipush (13), 2)) (by decide : _ = (13 : Int32))) ?_
          obtain ⟨r5, hr5, h⟩ := bp_some h
          refine ai (q_callSN (pc := 131) (As := [.int x1, .int 10, .int 13]) (st := []) (st2 := [.int r5]) rfl rfl (by decide +kernel : decode k_P_Formula_goOnWithSign.2.1 131 = .ok (.invokestatic 58, 3)) lc_1_58 mo_P_within ⟨Nat.le_of_ble_eq_true rfl, Nat.le_of_ble_eq_true rfl⟩ (Nat.le_of_ble_eq_true rfl) (Nat.le_of_ble_eq_true rfl) (P_within_run hr5)) ?_
          rcases ite_some h with ⟨c6, h⟩ | ⟨c6, h⟩
          · refine ai (r_if_eq_t (pc := 134) (tgt := 166) (by decide +kernel : decode k_P_Formula_goOnWithSign.2.1 134 = .ok (.ifCond .eq (32), 3)) (by decide) c6) ?_
            exact (P_Formula_goOnWithSign_166_run hL h)
          · refine ai (r_if_eq_f (pc := 134) 166 (by decide +kernel : decode k_P_Formula_goOnWithSign.2.1 134 = .ok (.ifCond .eq (32), 3)) (by decide) c6) ?_
            refine ai (p_aload_n (pc := 137) (k := 0) (by decide +kernel : decode k_P_Formula_goOnWithSign.2.1 137 = .ok (.aload_n 0, 1)) rfl rfl) ?_
            refine ai (r_iload_n (pc := 138) (k := 1) (by decide +kernel : decode k_P_Formula_goOnWithSign.2.1 138 = .ok (.iload_n 1, 1)) rfl rfl) ?_
            obtain ⟨r7, hr7, h⟩ := bp_some h
            refine ai (q_callS (pc := 139) (As := [.int x1]) (st := [.ref 1]) (st2 := [.int r7, .ref 1]) rfl rfl (by decide +kernel : decode k_P_Formula_goOnWithSign.2.1 139 = .ok (.invokestatic 65, 3)) lc_1_65 mo_P_Formula_rankOf ⟨Nat.le_of_ble_eq_true rfl, Nat.le_of_ble_eq_true rfl⟩ (Nat.le_of_ble_eq_true rfl) (Nat.le_of_ble_eq_true rfl) (P_Formula_rankOf_run hr7)) ?_
            obtain ⟨r8, m9, hr8, h⟩ := bn_some h
            have q10 := P_Formula_settle_run hL hr8
            have c11 := (PC_1 hL).1
            have hL := q10.2
            refine ai (q_callV (pc := 142) (As := [.int r7]) (st := []) (st2 := []) (b := 1) rfl rfl (by decide +kernel : decode k_P_Formula_goOnWithSign.2.1 142 = .ok (.invokevirtual 69, 3)) lc_1_69 mo_P_Formula_settle ⟨Nat.le_of_ble_eq_true rfl, Nat.le_of_ble_eq_true rfl⟩ (Nat.le_of_ble_eq_true rfl) (Nat.le_of_ble_eq_true rfl) c11 q10.1) ?_
            refine ai (p_aload_n (pc := 145) (k := 0) (by decide +kernel : decode k_P_Formula_goOnWithSign.2.1 145 = .ok (.aload_n 0, 1)) rfl rfl) ?_
            refine ai (r_iload_n (pc := 146) (k := 1) (by decide +kernel : decode k_P_Formula_goOnWithSign.2.1 146 = .ok (.iload_n 1, 1)) rfl rfl) ?_
            refine ai (r_iload_n (pc := 147) (k := 1) (by decide +kernel : decode k_P_Formula_goOnWithSign.2.1 147 = .ok (.iload_n 1, 1)) rfl rfl) ?_
            obtain ⟨r12, hr12, h⟩ := bp_some h
            refine ai (q_callS (pc := 148) (As := [.int x1]) (st := [.int x1, .ref 1]) (st2 := [.int r12, .int x1, .ref 1]) rfl rfl (by decide +kernel : decode k_P_Formula_goOnWithSign.2.1 148 = .ok (.invokestatic 65, 3)) lc_1_65 mo_P_Formula_rankOf ⟨Nat.le_of_ble_eq_true rfl, Nat.le_of_ble_eq_true rfl⟩ (Nat.le_of_ble_eq_true rfl) (Nat.le_of_ble_eq_true rfl) (P_Formula_rankOf_run hr12)) ?_
            obtain ⟨r13, m14, hr13, h⟩ := bn_some h
            have q15 := P_Formula_putOff_run hL hr13
            have c16 := (PC_1 hL).1
            have hL := q15.2
            refine ai (q_callV (pc := 151) (As := [.int x1, .int r12]) (st := []) (st2 := []) (b := 1) rfl rfl (by decide +kernel : decode k_P_Formula_goOnWithSign.2.1 151 = .ok (.invokevirtual 54, 3)) lc_1_54 mo_P_Formula_putOff ⟨Nat.le_of_ble_eq_true rfl, Nat.le_of_ble_eq_true rfl⟩ (Nat.le_of_ble_eq_true rfl) (Nat.le_of_ble_eq_true rfl) c16 q15.1) ?_
            refine ai (p_aload_n (pc := 154) (k := 0) (by decide +kernel : decode k_P_Formula_goOnWithSign.2.1 154 = .ok (.aload_n 0, 1)) rfl rfl) ?_
            refine ai (r_iconst (pc := 155) (by decide +kernel : decode k_P_Formula_goOnWithSign.2.1 155 = .ok (.iconst 1, 1)) ic_1) ?_
            have c17 := (PC_1 hL).1
            obtain ⟨m18, hm18, h⟩ := vb_some h
            have hL : PL m18 := by rw [hm18]; exact hL
            refine ai (p_putZ (pc := 156) hm18 (by decide) (by decide +kernel : decode k_P_Formula_goOnWithSign.2.1 156 = .ok (.putfield 32, 3)) lp_1_32 c17) ?_
            refine ai (p_aload_n (pc := 159) (k := 0) (by decide +kernel : decode k_P_Formula_goOnWithSign.2.1 159 = .ok (.aload_n 0, 1)) rfl rfl) ?_
            refine ai (r_iconst (pc := 160) (by decide +kernel : decode k_P_Formula_goOnWithSign.2.1 160 = .ok (.iconst 1, 1)) ic_1) ?_
            have c19 := (PC_1 hL).1
            obtain ⟨m20, hm20, h⟩ := vb_some h
            have hL : PL m20 := by rw [hm20]; exact hL
            refine ai (p_putI (pc := 161) hm20 (by decide +kernel : decode k_P_Formula_goOnWithSign.2.1 161 = .ok (.putfield 25, 3)) lp_1_25 c19) ?_
            refine ai (r_iconst (pc := 164) (by decide +kernel : decode k_P_Formula_goOnWithSign.2.1 164 = .ok (.iconst 0, 1)) ic_0) ?_
            cases h
            exact ⟨r_iret rfl (by decide +kernel : decode k_P_Formula_goOnWithSign.2.1 165 = .ok (.ireturn, 1)), hL⟩
        · refine ai (r_if_ne_t (pc := 123) (tgt := 166) (by decide +kernel : decode k_P_Formula_goOnWithSign.2.1 123 = .ok (.ifCond .ne (43), 3)) (by decide) c4) ?_
          exact (P_Formula_goOnWithSign_166_run hL h)
      · refine ai (r_if_ne_t (pc := 116) (tgt := 166) (by decide +kernel : decode k_P_Formula_goOnWithSign.2.1 116 = .ok (.ifCond .ne (50), 3)) (by decide) c3) ?_
        exact (P_Formula_goOnWithSign_166_run hL h)
set_option maxRecDepth 100000 in
set_option maxHeartbeats 4000000 in
theorem P_Formula_goOnWithSign_53_run {x1 : Int32} {x2 : Int32} {m m' : Mem} {r : Int32} (hL : PL m) (h : P_Formula_goOnWithSign_53 x1 x2 m = some (r, m')) : Run k_P_Formula_goOnWithSign 53 [(0, .ref 1), (1, .int x1), (2, .int x2)] [] m (some (.int r)) m' ∧ PL m' := by
  unfold P_Formula_goOnWithSign_53 at h
  refine ai (r_iload_n (pc := 53) (k := 2) (by decide +kernel : decode k_P_Formula_goOnWithSign.2.1 53 = .ok (.iload_n 2, 1)) rfl rfl) ?_
  rcases ite_some h with ⟨c1, h⟩ | ⟨c1, h⟩
  · refine ai (r_if_eq_t (pc := 54) (tgt := 101) (by decide +kernel : decode k_P_Formula_goOnWithSign.2.1 54 = .ok (.ifCond .eq (47), 3)) (by decide) c1) ?_
    exact (P_Formula_goOnWithSign_101_run hL h)
  · refine ai (r_if_eq_f (pc := 54) 101 (by decide +kernel : decode k_P_Formula_goOnWithSign.2.1 54 = .ok (.ifCond .eq (47), 3)) (by decide) c1) ?_
    refine ai (r_iload_n (pc := 57) (k := 1) (by decide +kernel : decode k_P_Formula_goOnWithSign.2.1 57 = .ok (.iload_n 1, 1)) rfl rfl) ?_
    refine ai (r_bipush (pc := 58) (by decide +kernel : decode k_P_Formula_goOnWithSign.2.1 58 = .ok (.bipush (15), 2)) (by decide : _ = (15 : Int32))) ?_
    rcases ite_some h with ⟨c2, h⟩ | ⟨c2, h⟩
    · refine ai (r_icmp_ne_f (pc := 60) 101 (by decide +kernel : decode k_P_Formula_goOnWithSign.2.1 60 = .ok (.if_icmp .ne (41), 3)) (by decide) c2) ?_
      refine ai (p_aload_n (pc := 63) (k := 0) (by decide +kernel : decode k_P_Formula_goOnWithSign.2.1 63 = .ok (.aload_n 0, 1)) rfl rfl) ?_
      refine ai (r_getI (pc := 64) (by decide +kernel : decode k_P_Formula_goOnWithSign.2.1 64 = .ok (.getfield 29, 3)) lg_1_29 (by decide) (PC_1 hL).1) ?_
      rcases ite_some h with ⟨c3, h⟩ | ⟨c3, h⟩
      · refine ai (r_if_le_t (pc := 67) (tgt := 101) (by decide +kernel : decode k_P_Formula_goOnWithSign.2.1 67 = .ok (.ifCond .le (34), 3)) (by decide) c3) ?_
        exact (P_Formula_goOnWithSign_101_run hL h)
      · refine ai (r_if_le_f (pc := 67) 101 (by decide +kernel : decode k_P_Formula_goOnWithSign.2.1 67 = .ok (.ifCond .le (34), 3)) (by decide) c3) ?_
        refine ai (p_aload_n (pc := 70) (k := 0) (by decide +kernel : decode k_P_Formula_goOnWithSign.2.1 70 = .ok (.aload_n 0, 1)) rfl rfl) ?_
        refine ai (r_iconst (pc := 71) (by decide +kernel : decode k_P_Formula_goOnWithSign.2.1 71 = .ok (.iconst 1, 1)) ic_1) ?_
        obtain ⟨r4, m5, hr4, h⟩ := bn_some h
        have q6 := P_Formula_settle_run hL hr4
        have c7 := (PC_1 hL).1
        have hL := q6.2
        refine ai (q_callV (pc := 72) (As := [.int 1]) (st := []) (st2 := []) (b := 1) rfl rfl (by decide +kernel : decode k_P_Formula_goOnWithSign.2.1 72 = .ok (.invokevirtual 69, 3)) lc_1_69 mo_P_Formula_settle ⟨Nat.le_of_ble_eq_true rfl, Nat.le_of_ble_eq_true rfl⟩ (Nat.le_of_ble_eq_true rfl) (Nat.le_of_ble_eq_true rfl) c7 q6.1) ?_
        refine ai (p_aload_n (pc := 75) (k := 0) (by decide +kernel : decode k_P_Formula_goOnWithSign.2.1 75 = .ok (.aload_n 0, 1)) rfl rfl) ?_
        refine ai (r_iconst (pc := 76) (by decide +kernel : decode k_P_Formula_goOnWithSign.2.1 76 = .ok (.iconst 0, 1)) ic_0) ?_
        refine ai (p_aload_n (pc := 77) (k := 0) (by decide +kernel : decode k_P_Formula_goOnWithSign.2.1 77 = .ok (.aload_n 0, 1)) rfl rfl) ?_
        refine ai (r_getI (pc := 78) (by decide +kernel : decode k_P_Formula_goOnWithSign.2.1 78 = .ok (.getfield 41, 3)) lg_1_41 (by decide) (PC_1 hL).1) ?_
        refine ai (r_iconst (pc := 81) (by decide +kernel : decode k_P_Formula_goOnWithSign.2.1 81 = .ok (.iconst 1, 1)) ic_1) ?_
        refine ai (r_isub (pc := 82) (by decide +kernel : decode k_P_Formula_goOnWithSign.2.1 82 = .ok (.isub, 1))) ?_
        refine ai (r_mmax (pc := 83) (by decide +kernel : decode k_P_Formula_goOnWithSign.2.1 83 = .ok (.invokestatic 73, 3)) lm_1_73 lm_mmax_st lm_math lm_mmax_cd ⟨by decide, by decide⟩ (Nat.le_of_ble_eq_true rfl)) ?_
        have c8 := (PC_1 hL).1
        obtain ⟨m9, hm9, h⟩ := vb_some h
        have hL : PL m9 := by rw [hm9]; exact hL
        refine ai (p_putI (pc := 86) hm9 (by decide +kernel : decode k_P_Formula_goOnWithSign.2.1 86 = .ok (.putfield 41, 3)) lp_1_41 c8) ?_
        refine ai (p_aload_n (pc := 89) (k := 0) (by decide +kernel : decode k_P_Formula_goOnWithSign.2.1 89 = .ok (.aload_n 0, 1)) rfl rfl) ?_
        refine ai (r_dup (pc := 90) (by decide +kernel : decode k_P_Formula_goOnWithSign.2.1 90 = .ok (.dup, 1)) (rfl)) ?_
        refine ai (r_getI (pc := 91) (by decide +kernel : decode k_P_Formula_goOnWithSign.2.1 91 = .ok (.getfield 29, 3)) lg_1_29 (by decide) (PC_1 hL).1) ?_
        refine ai (r_iconst (pc := 94) (by decide +kernel : decode k_P_Formula_goOnWithSign.2.1 94 = .ok (.iconst 1, 1)) ic_1) ?_
        refine ai (r_isub (pc := 95) (by decide +kernel : decode k_P_Formula_goOnWithSign.2.1 95 = .ok (.isub, 1))) ?_
        have c10 := (PC_1 hL).1
        obtain ⟨m11, hm11, h⟩ := vb_some h
        have hL : PL m11 := by rw [hm11]; exact hL
        refine ai (p_putI (pc := 96) hm11 (by decide +kernel : decode k_P_Formula_goOnWithSign.2.1 96 = .ok (.putfield 29, 3)) lp_1_29 c10) ?_
        refine ai (r_iconst (pc := 99) (by decide +kernel : decode k_P_Formula_goOnWithSign.2.1 99 = .ok (.iconst 0, 1)) ic_0) ?_
        cases h
        exact ⟨r_iret rfl (by decide +kernel : decode k_P_Formula_goOnWithSign.2.1 100 = .ok (.ireturn, 1)), hL⟩
    · refine ai (r_icmp_ne_t (pc := 60) (tgt := 101) (by decide +kernel : decode k_P_Formula_goOnWithSign.2.1 60 = .ok (.if_icmp .ne (41), 3)) (by decide) c2) ?_
      exact (P_Formula_goOnWithSign_101_run hL h)
set_option maxRecDepth 100000 in
set_option maxHeartbeats 4000000 in
theorem P_Formula_goOnWithSign_13_run {x1 : Int32} {s0 : Int32} {m m' : Mem} {r : Int32} (hL : PL m) (h : P_Formula_goOnWithSign_13 x1 s0 m = some (r, m')) : Run k_P_Formula_goOnWithSign 13 [(0, .ref 1), (1, .int x1)] [.int s0] m (some (.int r)) m' ∧ PL m' := by
  unfold P_Formula_goOnWithSign_13 at h
  refine ai (e_istore_n (pc := 13) rfl (by decide +kernel : decode k_P_Formula_goOnWithSign.2.1 13 = .ok (.istore_n 2, 1)) rfl (by decide) rfl) ?_
  refine ai (r_iload_n (pc := 14) (k := 0) (by decide +kernel : decode k_P_Formula_goOnWithSign.2.1 14 = .ok (.iload_n 2, 1)) rfl rfl) ?_
  rcases ite_some h with ⟨c1, h⟩ | ⟨c1, h⟩
  · refine ai (r_if_eq_t (pc := 15) (tgt := 53) (by decide +kernel : decode k_P_Formula_goOnWithSign.2.1 15 = .ok (.ifCond .eq (38), 3)) (by decide) c1) ?_
    exact (ai (r_sub [1, 2, 0] rfl) (P_Formula_goOnWithSign_53_run hL h))
  · refine ai (r_if_eq_f (pc := 15) 53 (by decide +kernel : decode k_P_Formula_goOnWithSign.2.1 15 = .ok (.ifCond .eq (38), 3)) (by decide) c1) ?_
    refine ai (r_iload_n (pc := 18) (k := 2) (by decide +kernel : decode k_P_Formula_goOnWithSign.2.1 18 = .ok (.iload_n 1, 1)) rfl rfl) ?_
    refine ai (r_bipush (pc := 19) (by decide +kernel : decode k_P_Formula_goOnWithSign.2.1 19 = .ok (.bipush (6), 2)) (by decide : _ = (6 : Int32))) ?_
    refine ai (r_bipush (pc := 21) (by decide +kernel : decode k_P_Formula_goOnWithSign.2.1 21 = .ok (.bipush (9), 2)) (by decide : _ = (9 : Int32))) ?_
    obtain ⟨r2, hr2, h⟩ := bp_some h
    refine ai (q_callSN (pc := 23) (As := [.int x1, .int 6, .int 9]) (st := []) (st2 := [.int r2]) rfl rfl (by decide +kernel : decode k_P_Formula_goOnWithSign.2.1 23 = .ok (.invokestatic 58, 3)) lc_1_58 mo_P_within ⟨Nat.le_of_ble_eq_true rfl, Nat.le_of_ble_eq_true rfl⟩ (Nat.le_of_ble_eq_true rfl) (Nat.le_of_ble_eq_true rfl) (P_within_run hr2)) ?_
    rcases ite_some h with ⟨c3, h⟩ | ⟨c3, h⟩
    · refine ai (r_if_eq_t (pc := 26) (tgt := 53) (by decide +kernel : decode k_P_Formula_goOnWithSign.2.1 26 = .ok (.ifCond .eq (27), 3)) (by decide) c3) ?_
      exact (ai (r_sub [1, 2, 0] rfl) (P_Formula_goOnWithSign_53_run hL h))
    · refine ai (r_if_eq_f (pc := 26) 53 (by decide +kernel : decode k_P_Formula_goOnWithSign.2.1 26 = .ok (.ifCond .eq (27), 3)) (by decide) c3) ?_
      refine ai (p_aload_n (pc := 29) (k := 1) (by decide +kernel : decode k_P_Formula_goOnWithSign.2.1 29 = .ok (.aload_n 0, 1)) rfl rfl) ?_
      refine ai (r_iload_n (pc := 30) (k := 2) (by decide +kernel : decode k_P_Formula_goOnWithSign.2.1 30 = .ok (.iload_n 1, 1)) rfl rfl) ?_
      obtain ⟨r4, hr4, h⟩ := bp_some h
      refine ai (q_callS (pc := 31) (As := [.int x1]) (st := [.ref 1]) (st2 := [.int r4, .ref 1]) rfl rfl (by decide +kernel : decode k_P_Formula_goOnWithSign.2.1 31 = .ok (.invokestatic 65, 3)) lc_1_65 mo_P_Formula_rankOf ⟨Nat.le_of_ble_eq_true rfl, Nat.le_of_ble_eq_true rfl⟩ (Nat.le_of_ble_eq_true rfl) (Nat.le_of_ble_eq_true rfl) (P_Formula_rankOf_run hr4)) ?_
      obtain ⟨r5, m6, hr5, h⟩ := bn_some h
      have q7 := P_Formula_settle_run hL hr5
      have c8 := (PC_1 hL).1
      have hL := q7.2
      refine ai (q_callV (pc := 34) (As := [.int r4]) (st := []) (st2 := []) (b := 1) rfl rfl (by decide +kernel : decode k_P_Formula_goOnWithSign.2.1 34 = .ok (.invokevirtual 69, 3)) lc_1_69 mo_P_Formula_settle ⟨Nat.le_of_ble_eq_true rfl, Nat.le_of_ble_eq_true rfl⟩ (Nat.le_of_ble_eq_true rfl) (Nat.le_of_ble_eq_true rfl) c8 q7.1) ?_
      refine ai (p_aload_n (pc := 37) (k := 1) (by decide +kernel : decode k_P_Formula_goOnWithSign.2.1 37 = .ok (.aload_n 0, 1)) rfl rfl) ?_
      refine ai (r_iload_n (pc := 38) (k := 2) (by decide +kernel : decode k_P_Formula_goOnWithSign.2.1 38 = .ok (.iload_n 1, 1)) rfl rfl) ?_
      refine ai (r_iload_n (pc := 39) (k := 2) (by decide +kernel : decode k_P_Formula_goOnWithSign.2.1 39 = .ok (.iload_n 1, 1)) rfl rfl) ?_
      obtain ⟨r9, hr9, h⟩ := bp_some h
      refine ai (q_callS (pc := 40) (As := [.int x1]) (st := [.int x1, .ref 1]) (st2 := [.int r9, .int x1, .ref 1]) rfl rfl (by decide +kernel : decode k_P_Formula_goOnWithSign.2.1 40 = .ok (.invokestatic 65, 3)) lc_1_65 mo_P_Formula_rankOf ⟨Nat.le_of_ble_eq_true rfl, Nat.le_of_ble_eq_true rfl⟩ (Nat.le_of_ble_eq_true rfl) (Nat.le_of_ble_eq_true rfl) (P_Formula_rankOf_run hr9)) ?_
      obtain ⟨r10, m11, hr10, h⟩ := bn_some h
      have q12 := P_Formula_putOff_run hL hr10
      have c13 := (PC_1 hL).1
      have hL := q12.2
      refine ai (q_callV (pc := 43) (As := [.int x1, .int r9]) (st := []) (st2 := []) (b := 1) rfl rfl (by decide +kernel : decode k_P_Formula_goOnWithSign.2.1 43 = .ok (.invokevirtual 54, 3)) lc_1_54 mo_P_Formula_putOff ⟨Nat.le_of_ble_eq_true rfl, Nat.le_of_ble_eq_true rfl⟩ (Nat.le_of_ble_eq_true rfl) (Nat.le_of_ble_eq_true rfl) c13 q12.1) ?_
      refine ai (p_aload_n (pc := 46) (k := 1) (by decide +kernel : decode k_P_Formula_goOnWithSign.2.1 46 = .ok (.aload_n 0, 1)) rfl rfl) ?_
      refine ai (r_iconst (pc := 47) (by decide +kernel : decode k_P_Formula_goOnWithSign.2.1 47 = .ok (.iconst 1, 1)) ic_1) ?_
      have c14 := (PC_1 hL).1
      obtain ⟨m15, hm15, h⟩ := vb_some h
      have hL : PL m15 := by rw [hm15]; exact hL
      refine ai (p_putI (pc := 48) hm15 (by decide +kernel : decode k_P_Formula_goOnWithSign.2.1 48 = .ok (.putfield 25, 3)) lp_1_25 c14) ?_
      refine ai (r_iconst (pc := 51) (by decide +kernel : decode k_P_Formula_goOnWithSign.2.1 51 = .ok (.iconst 0, 1)) ic_0) ?_
      cases h
      exact ⟨r_iret rfl (by decide +kernel : decode k_P_Formula_goOnWithSign.2.1 52 = .ok (.ireturn, 1)), hL⟩
set_option maxRecDepth 100000 in
set_option maxHeartbeats 4000000 in
theorem P_Formula_goOnWithSign_run {x1 : Int32} {m m' : Mem} {r : Int32} (hL : PL m) (h : P_Formula_goOnWithSign x1 m = some (r, m')) : Run k_P_Formula_goOnWithSign 0 [(0, .ref 1), (1, .int x1)] [] m (some (.int r)) m' ∧ PL m' := by
  unfold P_Formula_goOnWithSign at h
  refine ai (p_aload_n (pc := 0) (k := 0) (by decide +kernel : decode k_P_Formula_goOnWithSign.2.1 0 = .ok (.aload_n 0, 1)) rfl rfl) ?_
  refine ai (r_getI (pc := 1) (by decide +kernel : decode k_P_Formula_goOnWithSign.2.1 1 = .ok (.getfield 25, 3)) lg_1_25 (by decide) (PC_1 hL).1) ?_
  refine ai (r_iconst (pc := 4) (by decide +kernel : decode k_P_Formula_goOnWithSign.2.1 4 = .ok (.iconst 3, 1)) ic_3) ?_
  rcases ite_some h with ⟨c1, h⟩ | ⟨c1, h⟩
  · refine ai (r_icmp_ne_f (pc := 5) 12 (by decide +kernel : decode k_P_Formula_goOnWithSign.2.1 5 = .ok (.if_icmp .ne (7), 3)) (by decide) c1) ?_
    refine ai (r_iconst (pc := 8) (by decide +kernel : decode k_P_Formula_goOnWithSign.2.1 8 = .ok (.iconst 1, 1)) ic_1) ?_
    refine ai (r_goto (pc := 9) (tgt := 13) (by decide +kernel : decode k_P_Formula_goOnWithSign.2.1 9 = .ok (.goto (4), 3)) (by decide)) ?_
    exact (P_Formula_goOnWithSign_13_run hL h)
  · refine ai (r_icmp_ne_t (pc := 5) (tgt := 12) (by decide +kernel : decode k_P_Formula_goOnWithSign.2.1 5 = .ok (.if_icmp .ne (7), 3)) (by decide) c1) ?_
    refine ai (r_iconst (pc := 12) (by decide +kernel : decode k_P_Formula_goOnWithSign.2.1 12 = .ok (.iconst 0, 1)) ic_0) ?_
    exact (P_Formula_goOnWithSign_13_run hL h)
set_option maxRecDepth 100000 in
set_option maxHeartbeats 4000000 in
theorem P_Formula_goOnWithOperand_run {x1 : Int32} {x2 : Int32} {x3 : Int32} {x4 : Int32} {m m' : Mem} {r : Int32} (hL : PL m) (h : P_Formula_goOnWithOperand x1 x2 x3 x4 m = some (r, m')) : Run k_P_Formula_goOnWithOperand 0 [(0, .ref 1), (1, .int x1), (2, .int x2), (3, .int x3), (4, .int x4)] [] m (some (.int r)) m' ∧ PL m' := by
  unfold P_Formula_goOnWithOperand at h
  refine ai (r_iload (pc := 0) (k := 4) (by decide +kernel : decode k_P_Formula_goOnWithOperand.2.1 0 = .ok (.iload 4, 2)) rfl) ?_
  rcases ite_some h with ⟨c1, h⟩ | ⟨c1, h⟩
  · refine ai (r_if_ne_f (pc := 2) 7 (by decide +kernel : decode k_P_Formula_goOnWithOperand.2.1 2 = .ok (.ifCond .ne (5), 3)) (by decide) c1) ?_
    refine ai (r_iconst (pc := 5) (by decide +kernel : decode k_P_Formula_goOnWithOperand.2.1 5 = .ok (.iconst 1, 1)) ic_1) ?_
    cases h
    exact ⟨r_iret rfl (by decide +kernel : decode k_P_Formula_goOnWithOperand.2.1 6 = .ok (.ireturn, 1)), hL⟩
  · refine ai (r_if_ne_t (pc := 2) (tgt := 7) (by decide +kernel : decode k_P_Formula_goOnWithOperand.2.1 2 = .ok (.ifCond .ne (5), 3)) (by decide) c1) ?_
    refine ai (p_aload_n (pc := 7) (k := 0) (by decide +kernel : decode k_P_Formula_goOnWithOperand.2.1 7 = .ok (.aload_n 0, 1)) rfl rfl) ?_
    refine ai (r_iload_n (pc := 8) (k := 1) (by decide +kernel : decode k_P_Formula_goOnWithOperand.2.1 8 = .ok (.iload_n 1, 1)) rfl rfl) ?_
    refine ai (r_iload_n (pc := 9) (k := 2) (by decide +kernel : decode k_P_Formula_goOnWithOperand.2.1 9 = .ok (.iload_n 2, 1)) rfl rfl) ?_
    obtain ⟨r2, m3, hr2, h⟩ := bn_some h
    have q4 := P_Formula_addStep_run hL hr2
    have c5 := (PC_1 hL).1
    have hL := q4.2
    refine ai (q_callV (pc := 10) (As := [.int x1, .int x2]) (st := []) (st2 := []) (b := 1) rfl rfl (by decide +kernel : decode k_P_Formula_goOnWithOperand.2.1 10 = .ok (.invokevirtual 62, 3)) lc_1_62 mo_P_Formula_addStep ⟨Nat.le_of_ble_eq_true rfl, Nat.le_of_ble_eq_true rfl⟩ (Nat.le_of_ble_eq_true rfl) (Nat.le_of_ble_eq_true rfl) c5 q4.1) ?_
    refine ai (p_aload_n (pc := 13) (k := 0) (by decide +kernel : decode k_P_Formula_goOnWithOperand.2.1 13 = .ok (.aload_n 0, 1)) rfl rfl) ?_
    refine ai (r_iload_n (pc := 14) (k := 3) (by decide +kernel : decode k_P_Formula_goOnWithOperand.2.1 14 = .ok (.iload_n 3, 1)) rfl rfl) ?_
    have c6 := (PC_1 hL).1
    obtain ⟨m7, hm7, h⟩ := vb_some h
    have hL : PL m7 := by rw [hm7]; exact hL
    refine ai (p_putI (pc := 15) hm7 (by decide +kernel : decode k_P_Formula_goOnWithOperand.2.1 15 = .ok (.putfield 25, 3)) lp_1_25 c6) ?_
    refine ai (r_iconst (pc := 18) (by decide +kernel : decode k_P_Formula_goOnWithOperand.2.1 18 = .ok (.iconst 0, 1)) ic_0) ?_
    cases h
    exact ⟨r_iret rfl (by decide +kernel : decode k_P_Formula_goOnWithOperand.2.1 19 = .ok (.ireturn, 1)), hL⟩
set_option maxRecDepth 100000 in
set_option maxHeartbeats 4000000 in
theorem P_Formula_goOnWithUnit_23_run {s0 : Int32} {s1 : Int32} {s2 : Int32} {s3 : Int32} {m m' : Mem} {r : Int32} (hL : PL m) (h : P_Formula_goOnWithUnit_23 s0 s1 s2 s3 m = some (r, m')) : Run k_P_Formula_goOnWithUnit 23 [] [.int s0, .int s1, .int s2, .int s3, .ref 1] m (some (.int r)) m' ∧ PL m' := by
  unfold P_Formula_goOnWithUnit_23 at h
  obtain ⟨r1, m2, hr1, h⟩ := bn_some h
  have q3 := P_Formula_goOnWithOperand_run hL hr1
  have c4 := (PC_1 hL).1
  have hL := q3.2
  refine ai (q_callV (pc := 23) (As := [.int s3, .int s2, .int s1, .int s0]) (st := []) (st2 := [.int r1]) (b := 1) rfl rfl (by decide +kernel : decode k_P_Formula_goOnWithUnit.2.1 23 = .ok (.invokevirtual 50, 3)) lc_1_50 mo_P_Formula_goOnWithOperand ⟨Nat.le_of_ble_eq_true rfl, Nat.le_of_ble_eq_true rfl⟩ (Nat.le_of_ble_eq_true rfl) (Nat.le_of_ble_eq_true rfl) c4 q3.1) ?_
  cases h
  exact ⟨r_iret rfl (by decide +kernel : decode k_P_Formula_goOnWithUnit.2.1 26 = .ok (.ireturn, 1)), hL⟩
set_option maxRecDepth 100000 in
set_option maxHeartbeats 4000000 in
theorem P_Formula_goOnWithUnit_118_run {s0 : Int32} {s1 : Int32} {s2 : Int32} {s3 : Int32} {m m' : Mem} {r : Int32} (hL : PL m) (h : P_Formula_goOnWithUnit_118 s0 s1 s2 s3 m = some (r, m')) : Run k_P_Formula_goOnWithUnit 118 [] [.int s0, .int s1, .int s2, .int s3, .ref 1] m (some (.int r)) m' ∧ PL m' := by
  unfold P_Formula_goOnWithUnit_118 at h
  obtain ⟨r1, m2, hr1, h⟩ := bn_some h
  have q3 := P_Formula_goOnWithOperand_run hL hr1
  have c4 := (PC_1 hL).1
  have hL := q3.2
  refine ai (q_callV (pc := 118) (As := [.int s3, .int s2, .int s1, .int s0]) (st := []) (st2 := [.int r1]) (b := 1) rfl rfl (by decide +kernel : decode k_P_Formula_goOnWithUnit.2.1 118 = .ok (.invokevirtual 50, 3)) lc_1_50 mo_P_Formula_goOnWithOperand ⟨Nat.le_of_ble_eq_true rfl, Nat.le_of_ble_eq_true rfl⟩ (Nat.le_of_ble_eq_true rfl) (Nat.le_of_ble_eq_true rfl) c4 q3.1) ?_
  cases h
  exact ⟨r_iret rfl (by decide +kernel : decode k_P_Formula_goOnWithUnit.2.1 121 = .ok (.ireturn, 1)), hL⟩
set_option maxRecDepth 100000 in
set_option maxHeartbeats 4000000 in
theorem P_Formula_goOnWithUnit_113_run {s0 : Int32} {s1 : Int32} {s2 : Int32} {m m' : Mem} {r : Int32} (hL : PL m) (h : P_Formula_goOnWithUnit_113 s0 s1 s2 m = some (r, m')) : Run k_P_Formula_goOnWithUnit 113 [] [.int s0, .int s1, .int s2, .ref 1] m (some (.int r)) m' ∧ PL m' := by
  unfold P_Formula_goOnWithUnit_113 at h
  refine ai (r_iconst (pc := 113) (by decide +kernel : decode k_P_Formula_goOnWithUnit.2.1 113 = .ok (.iconst 1, 1)) ic_1) ?_
  refine ai (r_goto (pc := 114) (tgt := 118) (by decide +kernel : decode k_P_Formula_goOnWithUnit.2.1 114 = .ok (.goto (4), 3)) (by decide)) ?_
  exact (P_Formula_goOnWithUnit_118_run hL h)
set_option maxRecDepth 100000 in
set_option maxHeartbeats 4000000 in
theorem P_Formula_goOnWithUnit_97_run {x1 : Int32} {x3 : Int32} {s0 : Int32} {s1 : Int32} {m m' : Mem} {r : Int32} (hL : PL m) (h : P_Formula_goOnWithUnit_97 x1 x3 s0 s1 m = some (r, m')) : Run k_P_Formula_goOnWithUnit 97 [(1, .int x1), (3, .int x3)] [.int s0, .int s1, .ref 1] m (some (.int r)) m' ∧ PL m' := by
  unfold P_Formula_goOnWithUnit_97 at h
  refine ai (r_iconst (pc := 97) (by decide +kernel : decode k_P_Formula_goOnWithUnit.2.1 97 = .ok (.iconst 3, 1)) ic_3) ?_
  refine ai (r_iload_n (pc := 98) (k := 1) (by decide +kernel : decode k_P_Formula_goOnWithUnit.2.1 98 = .ok (.iload_n 3, 1)) rfl rfl) ?_
  rcases ite_some h with ⟨c1, h⟩ | ⟨c1, h⟩
  · refine ai (r_if_ne_f (pc := 99) 113 (by decide +kernel : decode k_P_Formula_goOnWithUnit.2.1 99 = .ok (.ifCond .ne (14), 3)) (by decide) c1) ?_
    refine ai (r_iload_n (pc := 102) (k := 0) (by decide +kernel : decode k_P_Formula_goOnWithUnit.2.1 102 = .ok (.iload_n 1, 1)) rfl rfl) ?_
    refine ai (r_bipush (pc := 103) (by decide +kernel : decode k_P_Formula_goOnWithUnit.2.1 103 = .ok (.bipush (20), 2)) (by decide : _ = (20 : Int32))) ?_
    refine ai (r_bipush (pc := 105) (by decide +kernel : decode k_P_Formula_goOnWithUnit.2.1 105 = .ok (.bipush (31), 2)) (by decide : _ = (31 : Int32))) ?_
    obtain ⟨r2, hr2, h⟩ := bp_some h
    refine ai (q_callSN (pc := 107) (As := [.int x1, .int 20, .int 31]) (st := [.int 3, .int s0, .int s1, .ref 1]) (st2 := [.int r2, .int 3, .int s0, .int s1, .ref 1]) rfl rfl (by decide +kernel : decode k_P_Formula_goOnWithUnit.2.1 107 = .ok (.invokestatic 58, 3)) lc_1_58 mo_P_within ⟨Nat.le_of_ble_eq_true rfl, Nat.le_of_ble_eq_true rfl⟩ (Nat.le_of_ble_eq_true rfl) (Nat.le_of_ble_eq_true rfl) (P_within_run hr2)) ?_
    rcases ite_some h with ⟨c3, h⟩ | ⟨c3, h⟩
    · refine ai (r_if_eq_t (pc := 110) (tgt := 117) (by decide +kernel : decode k_P_Formula_goOnWithUnit.2.1 110 = .ok (.ifCond .eq (7), 3)) (by decide) c3) ?_
      refine ai (r_iconst (pc := 117) (by decide +kernel : decode k_P_Formula_goOnWithUnit.2.1 117 = .ok (.iconst 0, 1)) ic_0) ?_
      exact (ai (r_sub [] rfl) (P_Formula_goOnWithUnit_118_run hL h))
    · refine ai (r_if_eq_f (pc := 110) 117 (by decide +kernel : decode k_P_Formula_goOnWithUnit.2.1 110 = .ok (.ifCond .eq (7), 3)) (by decide) c3) ?_
      exact (ai (r_sub [] rfl) (P_Formula_goOnWithUnit_113_run hL h))
  · refine ai (r_if_ne_t (pc := 99) (tgt := 113) (by decide +kernel : decode k_P_Formula_goOnWithUnit.2.1 99 = .ok (.ifCond .ne (14), 3)) (by decide) c1) ?_
    exact (ai (r_sub [] rfl) (P_Formula_goOnWithUnit_113_run hL h))
set_option maxRecDepth 100000 in
set_option maxHeartbeats 4000000 in
theorem P_Formula_goOnWithUnit_85_run {x1 : Int32} {x2 : Int32} {s0 : Int32} {m m' : Mem} {r : Int32} (hL : PL m) (h : P_Formula_goOnWithUnit_85 x1 x2 s0 m = some (r, m')) : Run k_P_Formula_goOnWithUnit 85 [(0, .ref 1), (1, .int x1), (2, .int x2)] [.int s0] m (some (.int r)) m' ∧ PL m' := by
  unfold P_Formula_goOnWithUnit_85 at h
  refine ai (e_istore_n (pc := 85) rfl (by decide +kernel : decode k_P_Formula_goOnWithUnit.2.1 85 = .ok (.istore_n 3, 1)) rfl (by decide) rfl) ?_
  refine ai (p_aload_n (pc := 86) (k := 1) (by decide +kernel : decode k_P_Formula_goOnWithUnit.2.1 86 = .ok (.aload_n 0, 1)) rfl rfl) ?_
  refine ai (r_iload_n (pc := 87) (k := 2) (by decide +kernel : decode k_P_Formula_goOnWithUnit.2.1 87 = .ok (.iload_n 1, 1)) rfl rfl) ?_
  refine ai (r_iload_n (pc := 88) (k := 0) (by decide +kernel : decode k_P_Formula_goOnWithUnit.2.1 88 = .ok (.iload_n 3, 1)) rfl rfl) ?_
  rcases ite_some h with ⟨c1, h⟩ | ⟨c1, h⟩
  · refine ai (r_if_eq_t (pc := 89) (tgt := 96) (by decide +kernel : decode k_P_Formula_goOnWithUnit.2.1 89 = .ok (.ifCond .eq (7), 3)) (by decide) c1) ?_
    refine ai (r_iconst (pc := 96) (by decide +kernel : decode k_P_Formula_goOnWithUnit.2.1 96 = .ok (.iconst 0, 1)) ic_0) ?_
    exact (ai (r_sub [2, 0] rfl) (P_Formula_goOnWithUnit_97_run hL h))
  · refine ai (r_if_eq_f (pc := 89) 96 (by decide +kernel : decode k_P_Formula_goOnWithUnit.2.1 89 = .ok (.ifCond .eq (7), 3)) (by decide) c1) ?_
    refine ai (r_iload_n (pc := 92) (k := 3) (by decide +kernel : decode k_P_Formula_goOnWithUnit.2.1 92 = .ok (.iload_n 2, 1)) rfl rfl) ?_
    refine ai (r_goto (pc := 93) (tgt := 97) (by decide +kernel : decode k_P_Formula_goOnWithUnit.2.1 93 = .ok (.goto (4), 3)) (by decide)) ?_
    exact (ai (r_sub [2, 0] rfl) (P_Formula_goOnWithUnit_97_run hL h))
set_option maxRecDepth 100000 in
set_option maxHeartbeats 4000000 in
theorem P_Formula_goOnWithUnit_69_run {x1 : Int32} {x2 : Int32} {m m' : Mem} {r : Int32} (hL : PL m) (h : P_Formula_goOnWithUnit_69 x1 x2 m = some (r, m')) : Run k_P_Formula_goOnWithUnit 69 [(0, .ref 1), (1, .int x1), (2, .int x2)] [] m (some (.int r)) m' ∧ PL m' := by
  unfold P_Formula_goOnWithUnit_69 at h
  refine ai (r_iload_n (pc := 69) (k := 1) (by decide +kernel : decode k_P_Formula_goOnWithUnit.2.1 69 = .ok (.iload_n 1, 1)) rfl rfl) ?_
  refine ai (r_bipush (pc := 70) (by decide +kernel : decode k_P_Formula_goOnWithUnit.2.1 70 = .ok (.bipush (14), 2)) (by decide : _ = (14 : Int32))) ?_
  rcases ite_some h with ⟨c1, h⟩ | ⟨c1, h⟩
  · refine ai (r_icmp_eq_t (pc := 72) (tgt := 122) (by decide +kernel : decode k_P_Formula_goOnWithUnit.2.1 72 = .ok (.if_icmp .eq (50), 3)) (by decide) c1) ?_
    refine ai (p_aload_n (pc := 122) (k := 0) (by decide +kernel : decode k_P_Formula_goOnWithUnit.2.1 122 = .ok (.aload_n 0, 1)) rfl rfl) ?_
    refine ai (r_getI (pc := 123) (by decide +kernel : decode k_P_Formula_goOnWithUnit.2.1 123 = .ok (.getfield 29, 3)) lg_1_29 (by decide) (PC_1 hL).1) ?_
    refine ai (r_bipush (pc := 126) (by decide +kernel : decode k_P_Formula_goOnWithUnit.2.1 126 = .ok (.bipush (6), 2)) (by decide : _ = (6 : Int32))) ?_
    rcases ite_some h with ⟨c2, h⟩ | ⟨c2, h⟩
    · refine ai (r_icmp_lt_t (pc := 128) (tgt := 133) (by decide +kernel : decode k_P_Formula_goOnWithUnit.2.1 128 = .ok (.if_icmp .lt (5), 3)) (by decide) c2) ?_
      refine ai (p_aload_n (pc := 133) (k := 0) (by decide +kernel : decode k_P_Formula_goOnWithUnit.2.1 133 = .ok (.aload_n 0, 1)) rfl rfl) ?_
      refine ai (r_dup (pc := 134) (by decide +kernel : decode k_P_Formula_goOnWithUnit.2.1 134 = .ok (.dup, 1)) (rfl)) ?_
      refine ai (r_getI (pc := 135) (by decide +kernel : decode k_P_Formula_goOnWithUnit.2.1 135 = .ok (.getfield 29, 3)) lg_1_29 (by decide) (PC_1 hL).1) ?_
      refine ai (r_iconst (pc := 138) (by decide +kernel : decode k_P_Formula_goOnWithUnit.2.1 138 = .ok (.iconst 1, 1)) ic_1) ?_
      refine ai (r_iadd (pc := 139) (by decide +kernel : decode k_P_Formula_goOnWithUnit.2.1 139 = .ok (.iadd, 1))) ?_
      have c3 := (PC_1 hL).1
      obtain ⟨m4, hm4, h⟩ := vb_some h
      have hL : PL m4 := by rw [hm4]; exact hL
      refine ai (p_putI (pc := 140) hm4 (by decide +kernel : decode k_P_Formula_goOnWithUnit.2.1 140 = .ok (.putfield 29, 3)) lp_1_29 c3) ?_
      refine ai (p_aload_n (pc := 143) (k := 0) (by decide +kernel : decode k_P_Formula_goOnWithUnit.2.1 143 = .ok (.aload_n 0, 1)) rfl rfl) ?_
      refine ai (r_bipush (pc := 144) (by decide +kernel : decode k_P_Formula_goOnWithUnit.2.1 144 = .ok (.bipush (14), 2)) (by decide : _ = (14 : Int32))) ?_
      refine ai (r_iconst (pc := 146) (by decide +kernel : decode k_P_Formula_goOnWithUnit.2.1 146 = .ok (.iconst 0, 1)) ic_0) ?_
      obtain ⟨r5, m6, hr5, h⟩ := bn_some h
      have q7 := P_Formula_putOff_run hL hr5
      have c8 := (PC_1 hL).1
      have hL := q7.2
      refine ai (q_callV (pc := 147) (As := [.int 14, .int 0]) (st := []) (st2 := []) (b := 1) rfl rfl (by decide +kernel : decode k_P_Formula_goOnWithUnit.2.1 147 = .ok (.invokevirtual 54, 3)) lc_1_54 mo_P_Formula_putOff ⟨Nat.le_of_ble_eq_true rfl, Nat.le_of_ble_eq_true rfl⟩ (Nat.le_of_ble_eq_true rfl) (Nat.le_of_ble_eq_true rfl) c8 q7.1) ?_
      refine ai (p_aload_n (pc := 150) (k := 0) (by decide +kernel : decode k_P_Formula_goOnWithUnit.2.1 150 = .ok (.aload_n 0, 1)) rfl rfl) ?_
      refine ai (r_iconst (pc := 151) (by decide +kernel : decode k_P_Formula_goOnWithUnit.2.1 151 = .ok (.iconst 1, 1)) ic_1) ?_
      have c9 := (PC_1 hL).1
      obtain ⟨m10, hm10, h⟩ := vb_some h
      have hL : PL m10 := by rw [hm10]; exact hL
      refine ai (p_putI (pc := 152) hm10 (by decide +kernel : decode k_P_Formula_goOnWithUnit.2.1 152 = .ok (.putfield 25, 3)) lp_1_25 c9) ?_
      refine ai (r_iconst (pc := 155) (by decide +kernel : decode k_P_Formula_goOnWithUnit.2.1 155 = .ok (.iconst 0, 1)) ic_0) ?_
      cases h
      exact ⟨r_iret rfl (by decide +kernel : decode k_P_Formula_goOnWithUnit.2.1 156 = .ok (.ireturn, 1)), hL⟩
    · refine ai (r_icmp_lt_f (pc := 128) 133 (by decide +kernel : decode k_P_Formula_goOnWithUnit.2.1 128 = .ok (.if_icmp .lt (5), 3)) (by decide) c2) ?_
      refine ai (r_iconst (pc := 131) (by decide +kernel : decode k_P_Formula_goOnWithUnit.2.1 131 = .ok (.iconst 2, 1)) ic_2) ?_
      cases h
      exact ⟨r_iret rfl (by decide +kernel : decode k_P_Formula_goOnWithUnit.2.1 132 = .ok (.ireturn, 1)), hL⟩
  · refine ai (r_icmp_eq_f (pc := 72) 122 (by decide +kernel : decode k_P_Formula_goOnWithUnit.2.1 72 = .ok (.if_icmp .eq (50), 3)) (by decide) c1) ?_
    refine ai (r_iload_n (pc := 75) (k := 1) (by decide +kernel : decode k_P_Formula_goOnWithUnit.2.1 75 = .ok (.iload_n 1, 1)) rfl rfl) ?_
    refine ai (r_iconst (pc := 76) (by decide +kernel : decode k_P_Formula_goOnWithUnit.2.1 76 = .ok (.iconst 3, 1)) ic_3) ?_
    rcases ite_some h with ⟨c11, h⟩ | ⟨c11, h⟩
    · refine ai (r_icmp_ne_f (pc := 77) 84 (by decide +kernel : decode k_P_Formula_goOnWithUnit.2.1 77 = .ok (.if_icmp .ne (7), 3)) (by decide) c11) ?_
      refine ai (r_iconst (pc := 80) (by decide +kernel : decode k_P_Formula_goOnWithUnit.2.1 80 = .ok (.iconst 1, 1)) ic_1) ?_
      refine ai (r_goto (pc := 81) (tgt := 85) (by decide +kernel : decode k_P_Formula_goOnWithUnit.2.1 81 = .ok (.goto (4), 3)) (by decide)) ?_
      exact (P_Formula_goOnWithUnit_85_run hL h)
    · refine ai (r_icmp_ne_t (pc := 77) (tgt := 84) (by decide +kernel : decode k_P_Formula_goOnWithUnit.2.1 77 = .ok (.if_icmp .ne (7), 3)) (by decide) c11) ?_
      refine ai (r_iconst (pc := 84) (by decide +kernel : decode k_P_Formula_goOnWithUnit.2.1 84 = .ok (.iconst 0, 1)) ic_0) ?_
      exact (P_Formula_goOnWithUnit_85_run hL h)
set_option maxRecDepth 100000 in
set_option maxHeartbeats 4000000 in
theorem P_Formula_goOnWithUnit_49_run {x1 : Int32} {x2 : Int32} {m m' : Mem} {r : Int32} (hL : PL m) (h : P_Formula_goOnWithUnit_49 x1 x2 m = some (r, m')) : Run k_P_Formula_goOnWithUnit 49 [(0, .ref 1), (1, .int x1), (2, .int x2)] [] m (some (.int r)) m' ∧ PL m' := by
  unfold P_Formula_goOnWithUnit_49 at h
  refine ai (p_aload_n (pc := 49) (k := 0) (by decide +kernel : decode k_P_Formula_goOnWithUnit.2.1 49 = .ok (.aload_n 0, 1)) rfl rfl) ?_
  refine ai (r_getI (pc := 50) (by decide +kernel : decode k_P_Formula_goOnWithUnit.2.1 50 = .ok (.getfield 25, 3)) lg_1_25 (by decide) (PC_1 hL).1) ?_
  rcases ite_some h with ⟨c1, h⟩ | ⟨c1, h⟩
  · refine ai (r_if_ne_f (pc := 53) 69 (by decide +kernel : decode k_P_Formula_goOnWithUnit.2.1 53 = .ok (.ifCond .ne (16), 3)) (by decide) c1) ?_
    refine ai (r_iload_n (pc := 56) (k := 1) (by decide +kernel : decode k_P_Formula_goOnWithUnit.2.1 56 = .ok (.iload_n 1, 1)) rfl rfl) ?_
    refine ai (r_bipush (pc := 57) (by decide +kernel : decode k_P_Formula_goOnWithUnit.2.1 57 = .ok (.bipush (59), 2)) (by decide : _ = (59 : Int32))) ?_
    rcases ite_some h with ⟨c2, h⟩ | ⟨c2, h⟩
    · refine ai (r_icmp_ne_f (pc := 59) 69 (by decide +kernel : decode k_P_Formula_goOnWithUnit.2.1 59 = .ok (.if_icmp .ne (10), 3)) (by decide) c2) ?_
      refine ai (p_aload_n (pc := 62) (k := 0) (by decide +kernel : decode k_P_Formula_goOnWithUnit.2.1 62 = .ok (.aload_n 0, 1)) rfl rfl) ?_
      refine ai (r_iconst (pc := 63) (by decide +kernel : decode k_P_Formula_goOnWithUnit.2.1 63 = .ok (.iconst 2, 1)) ic_2) ?_
      have c3 := (PC_1 hL).1
      obtain ⟨m4, hm4, h⟩ := vb_some h
      have hL : PL m4 := by rw [hm4]; exact hL
      refine ai (p_putI (pc := 64) hm4 (by decide +kernel : decode k_P_Formula_goOnWithUnit.2.1 64 = .ok (.putfield 25, 3)) lp_1_25 c3) ?_
      refine ai (r_iconst (pc := 67) (by decide +kernel : decode k_P_Formula_goOnWithUnit.2.1 67 = .ok (.iconst 0, 1)) ic_0) ?_
      cases h
      exact ⟨r_iret rfl (by decide +kernel : decode k_P_Formula_goOnWithUnit.2.1 68 = .ok (.ireturn, 1)), hL⟩
    · refine ai (r_icmp_ne_t (pc := 59) (tgt := 69) (by decide +kernel : decode k_P_Formula_goOnWithUnit.2.1 59 = .ok (.if_icmp .ne (10), 3)) (by decide) c2) ?_
      exact (P_Formula_goOnWithUnit_69_run hL h)
  · refine ai (r_if_ne_t (pc := 53) (tgt := 69) (by decide +kernel : decode k_P_Formula_goOnWithUnit.2.1 53 = .ok (.ifCond .ne (16), 3)) (by decide) c1) ?_
    exact (P_Formula_goOnWithUnit_69_run hL h)
set_option maxRecDepth 100000 in
set_option maxHeartbeats 4000000 in
theorem P_Formula_goOnWithUnit_run {x1 : Int32} {x2 : Int32} {m m' : Mem} {r : Int32} (hL : PL m) (h : P_Formula_goOnWithUnit x1 x2 m = some (r, m')) : Run k_P_Formula_goOnWithUnit 0 [(0, .ref 1), (1, .int x1), (2, .int x2)] [] m (some (.int r)) m' ∧ PL m' := by
  unfold P_Formula_goOnWithUnit at h
  refine ai (p_aload_n (pc := 0) (k := 0) (by decide +kernel : decode k_P_Formula_goOnWithUnit.2.1 0 = .ok (.aload_n 0, 1)) rfl rfl) ?_
  refine ai (r_getI (pc := 1) (by decide +kernel : decode k_P_Formula_goOnWithUnit.2.1 1 = .ok (.getfield 25, 3)) lg_1_25 (by decide) (PC_1 hL).1) ?_
  refine ai (r_iconst (pc := 4) (by decide +kernel : decode k_P_Formula_goOnWithUnit.2.1 4 = .ok (.iconst 2, 1)) ic_2) ?_
  rcases ite_some h with ⟨c1, h⟩ | ⟨c1, h⟩
  · refine ai (r_icmp_ne_f (pc := 5) 27 (by decide +kernel : decode k_P_Formula_goOnWithUnit.2.1 5 = .ok (.if_icmp .ne (22), 3)) (by decide) c1) ?_
    refine ai (p_aload_n (pc := 8) (k := 0) (by decide +kernel : decode k_P_Formula_goOnWithUnit.2.1 8 = .ok (.aload_n 0, 1)) rfl rfl) ?_
    refine ai (r_bipush (pc := 9) (by decide +kernel : decode k_P_Formula_goOnWithUnit.2.1 9 = .ok (.bipush (59), 2)) (by decide : _ = (59 : Int32))) ?_
    refine ai (r_iload_n (pc := 11) (k := 2) (by decide +kernel : decode k_P_Formula_goOnWithUnit.2.1 11 = .ok (.iload_n 2, 1)) rfl rfl) ?_
    refine ai (r_iconst (pc := 12) (by decide +kernel : decode k_P_Formula_goOnWithUnit.2.1 12 = .ok (.iconst 4, 1)) ic_4) ?_
    refine ai (r_iload_n (pc := 13) (k := 1) (by decide +kernel : decode k_P_Formula_goOnWithUnit.2.1 13 = .ok (.iload_n 1, 1)) rfl rfl) ?_
    refine ai (r_iconst (pc := 14) (by decide +kernel : decode k_P_Formula_goOnWithUnit.2.1 14 = .ok (.iconst 3, 1)) ic_3) ?_
    rcases ite_some h with ⟨c2, h⟩ | ⟨c2, h⟩
    · refine ai (r_icmp_ne_f (pc := 15) 22 (by decide +kernel : decode k_P_Formula_goOnWithUnit.2.1 15 = .ok (.if_icmp .ne (7), 3)) (by decide) c2) ?_
      refine ai (r_iconst (pc := 18) (by decide +kernel : decode k_P_Formula_goOnWithUnit.2.1 18 = .ok (.iconst 1, 1)) ic_1) ?_
      refine ai (r_goto (pc := 19) (tgt := 23) (by decide +kernel : decode k_P_Formula_goOnWithUnit.2.1 19 = .ok (.goto (4), 3)) (by decide)) ?_
      exact (ai (r_sub [] rfl) (P_Formula_goOnWithUnit_23_run hL h))
    · refine ai (r_icmp_ne_t (pc := 15) (tgt := 22) (by decide +kernel : decode k_P_Formula_goOnWithUnit.2.1 15 = .ok (.if_icmp .ne (7), 3)) (by decide) c2) ?_
      refine ai (r_iconst (pc := 22) (by decide +kernel : decode k_P_Formula_goOnWithUnit.2.1 22 = .ok (.iconst 0, 1)) ic_0) ?_
      exact (ai (r_sub [] rfl) (P_Formula_goOnWithUnit_23_run hL h))
  · refine ai (r_icmp_ne_t (pc := 5) (tgt := 27) (by decide +kernel : decode k_P_Formula_goOnWithUnit.2.1 5 = .ok (.if_icmp .ne (22), 3)) (by decide) c1) ?_
    refine ai (p_aload_n (pc := 27) (k := 0) (by decide +kernel : decode k_P_Formula_goOnWithUnit.2.1 27 = .ok (.aload_n 0, 1)) rfl rfl) ?_
    refine ai (r_getI (pc := 28) (by decide +kernel : decode k_P_Formula_goOnWithUnit.2.1 28 = .ok (.getfield 25, 3)) lg_1_25 (by decide) (PC_1 hL).1) ?_
    rcases ite_some h with ⟨c3, h⟩ | ⟨c3, h⟩
    · refine ai (r_if_ne_f (pc := 31) 49 (by decide +kernel : decode k_P_Formula_goOnWithUnit.2.1 31 = .ok (.ifCond .ne (18), 3)) (by decide) c3) ?_
      refine ai (r_iload_n (pc := 34) (k := 1) (by decide +kernel : decode k_P_Formula_goOnWithUnit.2.1 34 = .ok (.iload_n 1, 1)) rfl rfl) ?_
      refine ai (r_bipush (pc := 35) (by decide +kernel : decode k_P_Formula_goOnWithUnit.2.1 35 = .ok (.bipush (58), 2)) (by decide : _ = (58 : Int32))) ?_
      rcases ite_some h with ⟨c4, h⟩ | ⟨c4, h⟩
      · refine ai (r_icmp_ne_f (pc := 37) 49 (by decide +kernel : decode k_P_Formula_goOnWithUnit.2.1 37 = .ok (.if_icmp .ne (12), 3)) (by decide) c4) ?_
        refine ai (p_aload_n (pc := 40) (k := 0) (by decide +kernel : decode k_P_Formula_goOnWithUnit.2.1 40 = .ok (.aload_n 0, 1)) rfl rfl) ?_
        refine ai (r_bipush (pc := 41) (by decide +kernel : decode k_P_Formula_goOnWithUnit.2.1 41 = .ok (.bipush (58), 2)) (by decide : _ = (58 : Int32))) ?_
        refine ai (r_iconst (pc := 43) (by decide +kernel : decode k_P_Formula_goOnWithUnit.2.1 43 = .ok (.iconst 3, 1)) ic_3) ?_
        obtain ⟨r5, m6, hr5, h⟩ := bn_some h
        have q7 := P_Formula_putOff_run hL hr5
        have c8 := (PC_1 hL).1
        have hL := q7.2
        refine ai (q_callV (pc := 44) (As := [.int 58, .int 3]) (st := []) (st2 := []) (b := 1) rfl rfl (by decide +kernel : decode k_P_Formula_goOnWithUnit.2.1 44 = .ok (.invokevirtual 54, 3)) lc_1_54 mo_P_Formula_putOff ⟨Nat.le_of_ble_eq_true rfl, Nat.le_of_ble_eq_true rfl⟩ (Nat.le_of_ble_eq_true rfl) (Nat.le_of_ble_eq_true rfl) c8 q7.1) ?_
        refine ai (r_iconst (pc := 47) (by decide +kernel : decode k_P_Formula_goOnWithUnit.2.1 47 = .ok (.iconst 0, 1)) ic_0) ?_
        cases h
        exact ⟨r_iret rfl (by decide +kernel : decode k_P_Formula_goOnWithUnit.2.1 48 = .ok (.ireturn, 1)), hL⟩
      · refine ai (r_icmp_ne_t (pc := 37) (tgt := 49) (by decide +kernel : decode k_P_Formula_goOnWithUnit.2.1 37 = .ok (.if_icmp .ne (12), 3)) (by decide) c4) ?_
        exact (P_Formula_goOnWithUnit_49_run hL h)
    · refine ai (r_if_ne_t (pc := 31) (tgt := 49) (by decide +kernel : decode k_P_Formula_goOnWithUnit.2.1 31 = .ok (.ifCond .ne (18), 3)) (by decide) c3) ?_
      exact (P_Formula_goOnWithUnit_49_run hL h)
set_option maxRecDepth 100000 in
set_option maxHeartbeats 4000000 in
theorem J_copyOf_run {x0 : Option Nat} {x1 : Int32} {m m' : Mem} {r : Option Nat} (hL : PL m) (h : J_copyOf x0 x1 m = some (r, m')) : Run k_J_copyOf 0 [(0, va_rf x0), (1, .int x1)] [] m (some (va_rf r)) m' ∧ PL m' := by
  unfold J_copyOf at h
  refine ai (r_iload_n (pc := 0) (k := 1) (by decide +kernel : decode k_J_copyOf.2.1 0 = .ok (.iload_n 1, 1)) rfl rfl) ?_
  obtain ⟨a1, rfl, h9⟩ := gs_some h
  have h := h9
  refine ai (p_aload_n (pc := 1) (k := 0) (by decide +kernel : decode k_J_copyOf.2.1 1 = .ok (.aload_n 0, 1)) rfl rfl) ?_
  obtain ⟨t2, h⟩ := gt_some h
  refine ai (p_alen (pc := 2) (by decide +kernel : decode k_J_copyOf.2.1 2 = .ok (.arraylength, 1)) (by rw [t2]; decide) rfl rfl) ?_
  rcases ite_some h with ⟨c3, h⟩ | ⟨c3, h⟩
  · refine ai (r_icmp_ne_f (pc := 3) 14 (by decide +kernel : decode k_J_copyOf.2.1 3 = .ok (.if_icmp .ne (11), 3)) (by decide) c3) ?_
    refine ai (p_aload_n (pc := 6) (k := 0) (by decide +kernel : decode k_J_copyOf.2.1 6 = .ok (.aload_n 0, 1)) rfl rfl) ?_
    cases h
  · refine ai (r_icmp_ne_t (pc := 3) (tgt := 14) (by decide +kernel : decode k_J_copyOf.2.1 3 = .ok (.if_icmp .ne (11), 3)) (by decide) c3) ?_
    refine ai (r_iload_n (pc := 14) (k := 1) (by decide +kernel : decode k_J_copyOf.2.1 14 = .ok (.iload_n 1, 1)) rfl rfl) ?_
    obtain ⟨g4, h⟩ := gd_some h
    obtain ⟨m5, hm5, h⟩ := vb_some h
    have hL : PL m5 := by rw [hm5]; exact PL.nw hL
    refine ai (p_newI (pc := 15) hm5 (by decide +kernel : decode k_J_copyOf.2.1 15 = .ok (.newarray .int, 2)) lw_arr_int g4) ?_
    have t7 : mT m5 (mC m) = 32 := by rw [hm5]; exact up1_eq
    refine ai (p_astore_n (pc := 17) (by decide +kernel : decode k_J_copyOf.2.1 17 = .ok (.astore_n 2, 1)) rfl (by decide) rfl) ?_
    refine ai (p_aload_n (pc := 18) (k := 1) (by decide +kernel : decode k_J_copyOf.2.1 18 = .ok (.aload_n 0, 1)) rfl rfl) ?_
    refine ai (r_iconst (pc := 19) (by decide +kernel : decode k_J_copyOf.2.1 19 = .ok (.iconst 0, 1)) ic_0) ?_
    refine ai (p_aload_n (pc := 20) (k := 0) (by decide +kernel : decode k_J_copyOf.2.1 20 = .ok (.aload_n 2, 1)) rfl rfl) ?_
    refine ai (r_iconst (pc := 21) (by decide +kernel : decode k_J_copyOf.2.1 21 = .ok (.iconst 0, 1)) ic_0) ?_
    refine ai (p_aload_n (pc := 22) (k := 1) (by decide +kernel : decode k_J_copyOf.2.1 22 = .ok (.aload_n 0, 1)) rfl rfl) ?_
    obtain ⟨t8, h⟩ := gt_some h
    refine ai (p_alen (pc := 23) (by decide +kernel : decode k_J_copyOf.2.1 23 = .ok (.arraylength, 1)) (by rw [t8]; decide) rfl rfl) ?_
    refine ai (r_iload_n (pc := 24) (k := 2) (by decide +kernel : decode k_J_copyOf.2.1 24 = .ok (.iload_n 1, 1)) rfl rfl) ?_
    refine ai (r_mmin (pc := 25) (by decide +kernel : decode k_J_copyOf.2.1 25 = .ok (.invokestatic 304, 3)) lm_A_304 lm_mmin_st lm_math lm_mmin_cd ⟨by decide, by decide⟩ (Nat.le_of_ble_eq_true rfl)) ?_
    obtain ⟨g9, h⟩ := gd_some h
    obtain ⟨m10, hm10, h⟩ := vb_some h
    have hL : PL m10 := by rw [hm10]; exact hL
    have t11 : mT m10 (mC m) = 32 := by rw [hm10]; exact t7
    have t12 : mT m10 a1 = 32 := by rw [hm10]; exact t8
    refine ai (r_acopy (pc := 28) hm10 (by decide +kernel : decode k_J_copyOf.2.1 28 = .ok (.invokestatic 150, 3)) ly_A_150 ly_nat ly_st ly_ini ⟨by decide, by decide⟩ (Nat.le_of_ble_eq_true rfl) t8 t7 g9) ?_
    refine ai (p_aload_n (pc := 31) (k := 0) (by decide +kernel : decode k_J_copyOf.2.1 31 = .ok (.aload_n 2, 1)) rfl rfl) ?_
    cases h
    exact ⟨r_aret (o := some (mC m)) rfl (Or.inr ⟨_, rfl⟩) (by decide +kernel : decode k_J_copyOf.2.1 32 = .ok (.areturn, 1)), hL⟩
set_option maxRecDepth 100000 in
set_option maxHeartbeats 4000000 in
theorem P_Formula_made_run {m m' : Mem} {r : Option Nat} (hL : PL m) (h : P_Formula_made m = some (r, m')) : Run k_P_Formula_made 0 [(0, .ref 1)] [] m (some (va_rf r)) m' ∧ PL m' := by
  unfold P_Formula_made at h
  refine ai (p_aload_n (pc := 0) (k := 0) (by decide +kernel : decode k_P_Formula_made.2.1 0 = .ok (.aload_n 0, 1)) rfl rfl) ?_
  refine ai (p_getr (pc := 1) (PR_133_1 hL) (by decide +kernel : decode k_P_Formula_made.2.1 1 = .ok (.getfield 9, 3)) lg_1_9 (PC_1 hL).1) ?_
  refine ai (p_aload_n (pc := 4) (k := 0) (by decide +kernel : decode k_P_Formula_made.2.1 4 = .ok (.aload_n 0, 1)) rfl rfl) ?_
  refine ai (r_getI (pc := 5) (by decide +kernel : decode k_P_Formula_made.2.1 5 = .ok (.getfield 38, 3)) lg_1_38 (by decide) (PC_1 hL).1) ?_
  obtain ⟨r1, m2, hr1, h⟩ := bn_some h
  have q3 := J_copyOf_run hL hr1
  have hL := q3.2
  refine ai (q_callS (pc := 8) (As := [.ref 2, .int (mI m 134 1)]) (st := []) (st2 := [va_rf r1]) rfl rfl (by decide +kernel : decode k_P_Formula_made.2.1 8 = .ok (.invokestatic 44, 3)) lc_1_44 mo_J_copyOf ⟨Nat.le_of_ble_eq_true rfl, Nat.le_of_ble_eq_true rfl⟩ (Nat.le_of_ble_eq_true rfl) (Nat.le_of_ble_eq_true rfl) q3.1) ?_
  cases h
  exact ⟨r_aret (o := _) rfl (Or.inr ⟨_, rfl⟩) (by decide +kernel : decode k_P_Formula_made.2.1 11 = .ok (.areturn, 1)), hL⟩
set_option maxRecDepth 100000 in
set_option maxHeartbeats 4000000 in
theorem P_Parser_takeFormula_130_run {x5 : Int32} {m m' : Mem} {r : Int32} (hL : PL m) (h : P_Parser_takeFormula_130 x5 m = some (r, m')) : Run k_P_Parser_takeFormula 130 [(0, .ref 22), (5, .int x5)] [] m (some (.int r)) m' ∧ PL m' := by
  unfold P_Parser_takeFormula_130 at h
  refine ai (p_aload_n (pc := 130) (k := 0) (by decide +kernel : decode k_P_Parser_takeFormula.2.1 130 = .ok (.aload_n 0, 1)) rfl rfl) ?_
  refine ai (r_iload (pc := 131) (k := 1) (by decide +kernel : decode k_P_Parser_takeFormula.2.1 131 = .ok (.iload 5, 2)) rfl) ?_
  obtain ⟨r1, m2, hr1, h⟩ := bn_some h
  have q3 := P_Parser_fail_run hL hr1
  have c4 := (PC_22 hL).1
  have hL := q3.2
  refine ai (q_callV (pc := 133) (As := [.int x5]) (st := []) (st2 := [.int r1]) (b := 22) rfl rfl (by decide +kernel : decode k_P_Parser_takeFormula.2.1 133 = .ok (.invokevirtual 143, 3)) lc_6_143 mo_P_Parser_fail ⟨Nat.le_of_ble_eq_true rfl, Nat.le_of_ble_eq_true rfl⟩ (Nat.le_of_ble_eq_true rfl) (Nat.le_of_ble_eq_true rfl) c4 q3.1) ?_
  obtain ⟨z5, h⟩ := gz_some h
  cases h
  exact ⟨r_zret z5 rfl (by decide +kernel : decode k_P_Parser_takeFormula.2.1 136 = .ok (.ireturn, 1)), hL⟩
set_option maxRecDepth 100000 in
set_option maxHeartbeats 4000000 in
theorem P_Parser_takeFormula_165_run {x1 : Option Nat} {x2 : Int32} {m m' : Mem} {r : Int32} (hL : PL m) (h : P_Parser_takeFormula_165 x1 x2 m = some (r, m')) : Run k_P_Parser_takeFormula 165 [(0, .ref 22), (1, va_rf x1), (2, .int x2)] [] m (some (.int r)) m' ∧ PL m' := by
  unfold P_Parser_takeFormula_165 at h
  refine ai (r_iload_n (pc := 165) (k := 2) (by decide +kernel : decode k_P_Parser_takeFormula.2.1 165 = .ok (.iload_n 2, 1)) rfl rfl) ?_
  rcases ite_some h with ⟨c1, h⟩ | ⟨c1, h⟩
  · refine ai (r_if_eq_t (pc := 166) (tgt := 183) (by decide +kernel : decode k_P_Parser_takeFormula.2.1 166 = .ok (.ifCond .eq (17), 3)) (by decide) c1) ?_
    obtain ⟨a2, rfl, h9⟩ := gs_some h
    have h := h9
    refine ai (p_aload_n (pc := 183) (k := 1) (by decide +kernel : decode k_P_Parser_takeFormula.2.1 183 = .ok (.aload_n 1, 1)) rfl rfl) ?_
    refine ai (p_aload_n (pc := 184) (k := 0) (by decide +kernel : decode k_P_Parser_takeFormula.2.1 184 = .ok (.aload_n 0, 1)) rfl rfl) ?_
    refine ai (p_getr (pc := 185) (PR_775_22 hL) (by decide +kernel : decode k_P_Parser_takeFormula.2.1 185 = .ok (.getfield 33, 3)) lg_6_33 (PC_22 hL).1) ?_
    obtain ⟨r3, m4, hr3, h⟩ := bn_some h
    have q5 := P_Formula_made_run hL hr3
    have c6 := (PC_1 hL).1
    have hL := q5.2
    refine ai (q_callV (pc := 188) (As := []) (st := [.ref a2]) (st2 := [va_rf r3, .ref a2]) (b := 1) rfl rfl (by decide +kernel : decode k_P_Parser_takeFormula.2.1 188 = .ok (.invokevirtual 236, 3)) lc_6_236 mo_P_Formula_made ⟨Nat.le_of_ble_eq_true rfl, Nat.le_of_ble_eq_true rfl⟩ (Nat.le_of_ble_eq_true rfl) (Nat.le_of_ble_eq_true rfl) c6 q5.1) ?_
    obtain ⟨t7, h⟩ := gt_some h
    obtain ⟨m8, hm8, h⟩ := vb_some h
    have hL : PL m8 := by rw [hm8]; exact PL.sR (by decide) hL
    have t9 : mT m8 a2 = 3 := by rw [hm8]; exact t7
    refine ai (p_putR (pc := 191) hm8 (by decide +kernel : decode k_P_Parser_takeFormula.2.1 191 = .ok (.putfield 242, 3)) lp_6_242 t7) ?_
    refine ai (r_iconst (pc := 194) (by decide +kernel : decode k_P_Parser_takeFormula.2.1 194 = .ok (.iconst 1, 1)) ic_1) ?_
    cases h
    exact ⟨r_zret (by decide) rfl (by decide +kernel : decode k_P_Parser_takeFormula.2.1 195 = .ok (.ireturn, 1)), hL⟩
  · refine ai (r_if_eq_f (pc := 166) 183 (by decide +kernel : decode k_P_Parser_takeFormula.2.1 166 = .ok (.ifCond .eq (17), 3)) (by decide) c1) ?_
    obtain ⟨a10, rfl, h9⟩ := gs_some h
    have h := h9
    refine ai (p_aload_n (pc := 169) (k := 1) (by decide +kernel : decode k_P_Parser_takeFormula.2.1 169 = .ok (.aload_n 1, 1)) rfl rfl) ?_
    refine ai (p_aload_n (pc := 170) (k := 0) (by decide +kernel : decode k_P_Parser_takeFormula.2.1 170 = .ok (.aload_n 0, 1)) rfl rfl) ?_
    refine ai (p_getr (pc := 171) (PR_775_22 hL) (by decide +kernel : decode k_P_Parser_takeFormula.2.1 171 = .ok (.getfield 33, 3)) lg_6_33 (PC_22 hL).1) ?_
    obtain ⟨r11, m12, hr11, h⟩ := bn_some h
    have q13 := P_Formula_made_run hL hr11
    have c14 := (PC_1 hL).1
    have hL := q13.2
    refine ai (q_callV (pc := 174) (As := []) (st := [.ref a10]) (st2 := [va_rf r11, .ref a10]) (b := 1) rfl rfl (by decide +kernel : decode k_P_Parser_takeFormula.2.1 174 = .ok (.invokevirtual 236, 3)) lc_6_236 mo_P_Formula_made ⟨Nat.le_of_ble_eq_true rfl, Nat.le_of_ble_eq_true rfl⟩ (Nat.le_of_ble_eq_true rfl) (Nat.le_of_ble_eq_true rfl) c14 q13.1) ?_
    obtain ⟨t15, h⟩ := gt_some h
    obtain ⟨m16, hm16, h⟩ := vb_some h
    have hL : PL m16 := by rw [hm16]; exact PL.sR (by decide) hL
    have t17 : mT m16 a10 = 3 := by rw [hm16]; exact t15
    refine ai (p_putR (pc := 177) hm16 (by decide +kernel : decode k_P_Parser_takeFormula.2.1 177 = .ok (.putfield 239, 3)) lp_6_239 t15) ?_
    refine ai (r_goto (pc := 180) (tgt := 194) (by decide +kernel : decode k_P_Parser_takeFormula.2.1 180 = .ok (.goto (14), 3)) (by decide)) ?_
    refine ai (r_iconst (pc := 194) (by decide +kernel : decode k_P_Parser_takeFormula.2.1 194 = .ok (.iconst 1, 1)) ic_1) ?_
    cases h
    exact ⟨r_zret (by decide) rfl (by decide +kernel : decode k_P_Parser_takeFormula.2.1 195 = .ok (.ireturn, 1)), hL⟩
set_option maxRecDepth 100000 in
set_option maxHeartbeats 4000000 in
theorem P_Parser_takeFormula_147_run {x1 : Option Nat} {x2 : Int32} {m m' : Mem} {r : Int32} (hL : PL m) (h : P_Parser_takeFormula_147 x1 x2 m = some (r, m')) : Run k_P_Parser_takeFormula 147 [(0, .ref 22), (1, va_rf x1), (2, .int x2)] [] m (some (.int r)) m' ∧ PL m' := by
  unfold P_Parser_takeFormula_147 at h
  refine ai (r_goto (pc := 147) (tgt := 165) (by decide +kernel : decode k_P_Parser_takeFormula.2.1 147 = .ok (.goto (18), 3)) (by decide)) ?_
  exact (P_Parser_takeFormula_165_run hL h)
set_option maxRecDepth 100000 in
set_option maxHeartbeats 4000000 in
theorem P_Parser_takeFormula_123_run {k10 : Option Nat → Int32 → Int32 → Mem → Option (Int32 × Mem)} {x1 : Option Nat} {x2 : Int32} {x3 : Int32} {s0 : Int32} {m m' : Mem} {r : Int32} (hk10 : ∀ (x1 : Option Nat) (x2 : Int32) (x3 : Int32) (m : Mem) (r : Int32) (m' : Mem), PL m → k10 x1 x2 x3 m = some (r, m') → Run k_P_Parser_takeFormula 10 [(0, .ref 22), (1, va_rf x1), (2, .int x2), (3, .int x3)] [] m (some (.int r)) m' ∧ PL m') (hL : PL m) (h : P_Parser_takeFormula_123 k10 x1 x2 x3 s0 m = some (r, m')) : Run k_P_Parser_takeFormula 123 [(0, .ref 22), (1, va_rf x1), (2, .int x2), (3, .int x3)] [.int s0] m (some (.int r)) m' ∧ PL m' := by
  unfold P_Parser_takeFormula_123 at h
  refine ai (e_istore (pc := 123) rfl (by decide +kernel : decode k_P_Parser_takeFormula.2.1 123 = .ok (.istore 5, 2)) (by decide) rfl) ?_
  refine ai (r_iload (pc := 125) (k := 0) (by decide +kernel : decode k_P_Parser_takeFormula.2.1 125 = .ok (.iload 5, 2)) rfl) ?_
  rcases ite_some h with ⟨c1, h⟩ | ⟨c1, h⟩
  · refine ai (r_if_eq_t (pc := 127) (tgt := 137) (by decide +kernel : decode k_P_Parser_takeFormula.2.1 127 = .ok (.ifCond .eq (10), 3)) (by decide) c1) ?_
    refine ai (p_aload_n (pc := 137) (k := 1) (by decide +kernel : decode k_P_Parser_takeFormula.2.1 137 = .ok (.aload_n 0, 1)) rfl rfl) ?_
    refine ai (p_getr (pc := 138) (PR_775_22 hL) (by decide +kernel : decode k_P_Parser_takeFormula.2.1 138 = .ok (.getfield 33, 3)) lg_6_33 (PC_22 hL).1) ?_
    refine ai (r_getI (pc := 141) (by decide +kernel : decode k_P_Parser_takeFormula.2.1 141 = .ok (.getfield 232, 3)) lg_6_232 (by decide) (PC_1 hL).1) ?_
    rcases ite_some h with ⟨c2, h⟩ | ⟨c2, h⟩
    · refine ai (r_if_eq_t (pc := 144) (tgt := 150) (by decide +kernel : decode k_P_Parser_takeFormula.2.1 144 = .ok (.ifCond .eq (6), 3)) (by decide) c2) ?_
      refine ai (p_aload_n (pc := 150) (k := 1) (by decide +kernel : decode k_P_Parser_takeFormula.2.1 150 = .ok (.aload_n 0, 1)) rfl rfl) ?_
      obtain ⟨r3, m4, hr3, h⟩ := bn_some h
      have q5 := P_Parser_take_run hL hr3
      have c6 := (PC_22 hL).1
      have hL := q5.2
      refine ai (q_callV (pc := 151) (As := []) (st := []) (st2 := [.int r3]) (b := 22) rfl rfl (by decide +kernel : decode k_P_Parser_takeFormula.2.1 151 = .ok (.invokevirtual 147, 3)) lc_6_147 mo_P_Parser_take ⟨Nat.le_of_ble_eq_true rfl, Nat.le_of_ble_eq_true rfl⟩ (Nat.le_of_ble_eq_true rfl) (Nat.le_of_ble_eq_true rfl) c6 q5.1) ?_
      rcases ite_some h with ⟨c7, h⟩ | ⟨c7, h⟩
      · refine ai (r_if_ne_f (pc := 154) 159 (by decide +kernel : decode k_P_Parser_takeFormula.2.1 154 = .ok (.ifCond .ne (5), 3)) (by decide) c7) ?_
        refine ai (r_iconst (pc := 157) (by decide +kernel : decode k_P_Parser_takeFormula.2.1 157 = .ok (.iconst 0, 1)) ic_0) ?_
        cases h
        exact ⟨r_zret (by decide) rfl (by decide +kernel : decode k_P_Parser_takeFormula.2.1 158 = .ok (.ireturn, 1)), hL⟩
      · refine ai (r_if_ne_t (pc := 154) (tgt := 159) (by decide +kernel : decode k_P_Parser_takeFormula.2.1 154 = .ok (.ifCond .ne (5), 3)) (by decide) c7) ?_
        obtain ⟨v8, hv8, h⟩ := vb_some h
        refine ai (e_iinc (pc := 159) (k := 4) hv8 ic_1 (by decide +kernel : decode k_P_Parser_takeFormula.2.1 159 = .ok (.iinc 3 (1), 3)) rfl (by decide) rfl) ?_
        refine ai (r_goto (pc := 162) (tgt := 10) (by decide +kernel : decode k_P_Parser_takeFormula.2.1 162 = .ok (.goto (-152), 3)) (by decide)) ?_
        exact (ai (r_sub [2, 3, 4, 0] rfl) (hk10 x1 x2 v8 m4 _ _ hL h))
    · refine ai (r_if_eq_f (pc := 144) 150 (by decide +kernel : decode k_P_Parser_takeFormula.2.1 144 = .ok (.ifCond .eq (6), 3)) (by decide) c2) ?_
      exact (ai (r_sub [1, 2, 3] rfl) (P_Parser_takeFormula_147_run hL h))
  · refine ai (r_if_eq_f (pc := 127) 137 (by decide +kernel : decode k_P_Parser_takeFormula.2.1 127 = .ok (.ifCond .eq (10), 3)) (by decide) c1) ?_
    exact (ai (r_sub [1, 0] rfl) (P_Parser_takeFormula_130_run hL h))
set_option maxRecDepth 100000 in
set_option maxHeartbeats 4000000 in
theorem P_Parser_takeFormula_70_run {k10 : Option Nat → Int32 → Int32 → Mem → Option (Int32 × Mem)} {x1 : Option Nat} {x2 : Int32} {x3 : Int32} {x4 : Int32} {m m' : Mem} {r : Int32} (hk10 : ∀ (x1 : Option Nat) (x2 : Int32) (x3 : Int32) (m : Mem) (r : Int32) (m' : Mem), PL m → k10 x1 x2 x3 m = some (r, m') → Run k_P_Parser_takeFormula 10 [(0, .ref 22), (1, va_rf x1), (2, .int x2), (3, .int x3)] [] m (some (.int r)) m' ∧ PL m') (hL : PL m) (h : P_Parser_takeFormula_70 k10 x1 x2 x3 x4 m = some (r, m')) : Run k_P_Parser_takeFormula 70 [(0, .ref 22), (1, va_rf x1), (2, .int x2), (3, .int x3), (4, .int x4)] [] m (some (.int r)) m' ∧ PL m' := by
  unfold P_Parser_takeFormula_70 at h
  refine ai (p_aload_n (pc := 70) (k := 0) (by decide +kernel : decode k_P_Parser_takeFormula.2.1 70 = .ok (.aload_n 0, 1)) rfl rfl) ?_
  refine ai (p_getr (pc := 71) (PR_775_22 hL) (by decide +kernel : decode k_P_Parser_takeFormula.2.1 71 = .ok (.getfield 33, 3)) lg_6_33 (PC_22 hL).1) ?_
  obtain ⟨r1, m2, hr1, h⟩ := bn_some h
  have q3 := P_Formula_wantsSign_run hL hr1
  have c4 := (PC_1 hL).1
  have hL := q3.2
  refine ai (q_callV (pc := 74) (As := []) (st := []) (st2 := [.int r1]) (b := 1) rfl rfl (by decide +kernel : decode k_P_Parser_takeFormula.2.1 74 = .ok (.invokevirtual 222, 3)) lc_6_222 mo_P_Formula_wantsSign ⟨Nat.le_of_ble_eq_true rfl, Nat.le_of_ble_eq_true rfl⟩ (Nat.le_of_ble_eq_true rfl) (Nat.le_of_ble_eq_true rfl) c4 q3.1) ?_
  rcases ite_some h with ⟨c5, h⟩ | ⟨c5, h⟩
  · refine ai (r_if_eq_t (pc := 77) (tgt := 102) (by decide +kernel : decode k_P_Parser_takeFormula.2.1 77 = .ok (.ifCond .eq (25), 3)) (by decide) c5) ?_
    refine ai (p_aload_n (pc := 102) (k := 0) (by decide +kernel : decode k_P_Parser_takeFormula.2.1 102 = .ok (.aload_n 0, 1)) rfl rfl) ?_
    refine ai (p_getr (pc := 103) (PR_775_22 hL) (by decide +kernel : decode k_P_Parser_takeFormula.2.1 103 = .ok (.getfield 33, 3)) lg_6_33 (PC_22 hL).1) ?_
    refine ai (p_aload_n (pc := 106) (k := 0) (by decide +kernel : decode k_P_Parser_takeFormula.2.1 106 = .ok (.aload_n 0, 1)) rfl rfl) ?_
    refine ai (p_getr (pc := 107) (PR_768_22 hL) (by decide +kernel : decode k_P_Parser_takeFormula.2.1 107 = .ok (.getfield 25, 3)) lg_6_25 (PC_22 hL).1) ?_
    refine ai (p_getr (pc := 110) (PR_642_16 hL) (by decide +kernel : decode k_P_Parser_takeFormula.2.1 110 = .ok (.getfield 42, 3)) lg_6_42 (PC_16 hL).1) ?_
    refine ai (p_aload_n (pc := 113) (k := 0) (by decide +kernel : decode k_P_Parser_takeFormula.2.1 113 = .ok (.aload_n 0, 1)) rfl rfl) ?_
    refine ai (r_getI (pc := 114) (by decide +kernel : decode k_P_Parser_takeFormula.2.1 114 = .ok (.getfield 71, 3)) lg_6_71 (by decide) (PC_22 hL).1) ?_
    obtain ⟨g6, h⟩ := gd_some h
    refine ai (p_iald (pc := 117) (by decide +kernel : decode k_P_Parser_takeFormula.2.1 117 = .ok (.iaload, 1)) (PC_18 hL).1 (PC_18 hL).2 g6) ?_
    refine ai (r_iload (pc := 118) (k := 4) (by decide +kernel : decode k_P_Parser_takeFormula.2.1 118 = .ok (.iload 4, 2)) rfl) ?_
    obtain ⟨r7, m8, hr7, h⟩ := bn_some h
    have q9 := P_Formula_goOnWithUnit_run hL hr7
    have c10 := (PC_1 hL).1
    have hL := q9.2
    refine ai (q_callV (pc := 120) (As := [.int (aI m2 18 (ix (mI m2 779 22))), .int x4]) (st := []) (st2 := [.int r7]) (b := 1) rfl rfl (by decide +kernel : decode k_P_Parser_takeFormula.2.1 120 = .ok (.invokevirtual 229, 3)) lc_6_229 mo_P_Formula_goOnWithUnit ⟨Nat.le_of_ble_eq_true rfl, Nat.le_of_ble_eq_true rfl⟩ (Nat.le_of_ble_eq_true rfl) (Nat.le_of_ble_eq_true rfl) c10 q9.1) ?_
    exact (ai (r_sub [0, 1, 2, 3] rfl) (P_Parser_takeFormula_123_run hk10 hL h))
  · refine ai (r_if_eq_f (pc := 77) 102 (by decide +kernel : decode k_P_Parser_takeFormula.2.1 77 = .ok (.ifCond .eq (25), 3)) (by decide) c5) ?_
    refine ai (p_aload_n (pc := 80) (k := 0) (by decide +kernel : decode k_P_Parser_takeFormula.2.1 80 = .ok (.aload_n 0, 1)) rfl rfl) ?_
    refine ai (p_getr (pc := 81) (PR_775_22 hL) (by decide +kernel : decode k_P_Parser_takeFormula.2.1 81 = .ok (.getfield 33, 3)) lg_6_33 (PC_22 hL).1) ?_
    refine ai (p_aload_n (pc := 84) (k := 0) (by decide +kernel : decode k_P_Parser_takeFormula.2.1 84 = .ok (.aload_n 0, 1)) rfl rfl) ?_
    refine ai (p_getr (pc := 85) (PR_768_22 hL) (by decide +kernel : decode k_P_Parser_takeFormula.2.1 85 = .ok (.getfield 25, 3)) lg_6_25 (PC_22 hL).1) ?_
    refine ai (p_getr (pc := 88) (PR_642_16 hL) (by decide +kernel : decode k_P_Parser_takeFormula.2.1 88 = .ok (.getfield 42, 3)) lg_6_42 (PC_16 hL).1) ?_
    refine ai (p_aload_n (pc := 91) (k := 0) (by decide +kernel : decode k_P_Parser_takeFormula.2.1 91 = .ok (.aload_n 0, 1)) rfl rfl) ?_
    refine ai (r_getI (pc := 92) (by decide +kernel : decode k_P_Parser_takeFormula.2.1 92 = .ok (.getfield 71, 3)) lg_6_71 (by decide) (PC_22 hL).1) ?_
    obtain ⟨g11, h⟩ := gd_some h
    refine ai (p_iald (pc := 95) (by decide +kernel : decode k_P_Parser_takeFormula.2.1 95 = .ok (.iaload, 1)) (PC_18 hL).1 (PC_18 hL).2 g11) ?_
    obtain ⟨r12, m13, hr12, h⟩ := bn_some h
    have q14 := P_Formula_goOnWithSign_run hL hr12
    have c15 := (PC_1 hL).1
    have hL := q14.2
    refine ai (q_callV (pc := 96) (As := [.int (aI m2 18 (ix (mI m2 779 22)))]) (st := []) (st2 := [.int r12]) (b := 1) rfl rfl (by decide +kernel : decode k_P_Parser_takeFormula.2.1 96 = .ok (.invokevirtual 225, 3)) lc_6_225 mo_P_Formula_goOnWithSign ⟨Nat.le_of_ble_eq_true rfl, Nat.le_of_ble_eq_true rfl⟩ (Nat.le_of_ble_eq_true rfl) (Nat.le_of_ble_eq_true rfl) c15 q14.1) ?_
    refine ai (r_goto (pc := 99) (tgt := 123) (by decide +kernel : decode k_P_Parser_takeFormula.2.1 99 = .ok (.goto (24), 3)) (by decide)) ?_
    exact (ai (r_sub [0, 1, 2, 3] rfl) (P_Parser_takeFormula_123_run hk10 hL h))
set_option maxRecDepth 100000 in
set_option maxHeartbeats 4000000 in
theorem P_Parser_takeFormula_10_run {n : Nat} {x1 : Option Nat} {x2 : Int32} {x3 : Int32} {m m' : Mem} {r : Int32} (hL : PL m) (h : P_Parser_takeFormula_10 n x1 x2 x3 m = some (r, m')) : Run k_P_Parser_takeFormula 10 [(0, .ref 22), (1, va_rf x1), (2, .int x2), (3, .int x3)] [] m (some (.int r)) m' ∧ PL m' := by
  induction n generalizing x1 x2 x3 m r m' with
  | zero => exact absurd h (by simp [P_Parser_takeFormula_10])
  | succ n ih =>
    rw [P_Parser_takeFormula_10.eq_2] at h
    refine ai (r_iload_n (pc := 10) (k := 3) (by decide +kernel : decode k_P_Parser_takeFormula.2.1 10 = .ok (.iload_n 3, 1)) rfl rfl) ?_
    refine ai (r_sipush (pc := 11) (by decide +kernel : decode k_P_Parser_takeFormula.2.1 11 = .ok (.sipush (500), 3)) (by decide : _ = (500 : Int32))) ?_
    rcases ite_some h with ⟨c1, h⟩ | ⟨c1, h⟩
    · refine ai (r_icmp_gt_t (pc := 14) (tgt := 165) (by decide +kernel : decode k_P_Parser_takeFormula.2.1 14 = .ok (.if_icmp .gt (151), 3)) (by decide) c1) ?_
      exact (ai (r_sub [0, 1, 2] rfl) (P_Parser_takeFormula_165_run hL h))
    · refine ai (r_icmp_gt_f (pc := 14) 165 (by decide +kernel : decode k_P_Parser_takeFormula.2.1 14 = .ok (.if_icmp .gt (151), 3)) (by decide) c1) ?_
      refine ai (p_aload_n (pc := 17) (k := 0) (by decide +kernel : decode k_P_Parser_takeFormula.2.1 17 = .ok (.aload_n 0, 1)) rfl rfl) ?_
      refine ai (p_getr (pc := 18) (PR_768_22 hL) (by decide +kernel : decode k_P_Parser_takeFormula.2.1 18 = .ok (.getfield 25, 3)) lg_6_25 (PC_22 hL).1) ?_
      refine ai (p_getr (pc := 21) (PR_644_16 hL) (by decide +kernel : decode k_P_Parser_takeFormula.2.1 21 = .ok (.getfield 46, 3)) lg_6_46 (PC_16 hL).1) ?_
      refine ai (p_aload_n (pc := 24) (k := 0) (by decide +kernel : decode k_P_Parser_takeFormula.2.1 24 = .ok (.aload_n 0, 1)) rfl rfl) ?_
      refine ai (r_getI (pc := 25) (by decide +kernel : decode k_P_Parser_takeFormula.2.1 25 = .ok (.getfield 71, 3)) lg_6_71 (by decide) (PC_22 hL).1) ?_
      obtain ⟨g2, h⟩ := gd_some h
      refine ai (p_lald (pc := 28) (by decide +kernel : decode k_P_Parser_takeFormula.2.1 28 = .ok (.laload, 1)) (PC_20 hL).1 (PC_20 hL).2 g2) ?_
      refine ai (r_l2i (pc := 29) (by decide +kernel : decode k_P_Parser_takeFormula.2.1 29 = .ok (.l2i, 1))) ?_
      obtain ⟨v3, hv3, h⟩ := vb_some h
      refine ai (e_istore (pc := 30) hv3 (by decide +kernel : decode k_P_Parser_takeFormula.2.1 30 = .ok (.istore 4, 2)) (by decide) rfl) ?_
      refine ai (p_aload_n (pc := 32) (k := 1) (by decide +kernel : decode k_P_Parser_takeFormula.2.1 32 = .ok (.aload_n 0, 1)) rfl rfl) ?_
      refine ai (p_getr (pc := 33) (PR_775_22 hL) (by decide +kernel : decode k_P_Parser_takeFormula.2.1 33 = .ok (.getfield 33, 3)) lg_6_33 (PC_22 hL).1) ?_
      obtain ⟨r4, m5, hr4, h⟩ := bn_some h
      have q6 := P_Formula_wantsTicket_run hL hr4
      have c7 := (PC_1 hL).1
      have hL := q6.2
      refine ai (q_callV (pc := 36) (As := []) (st := []) (st2 := [.int r4]) (b := 1) rfl rfl (by decide +kernel : decode k_P_Parser_takeFormula.2.1 36 = .ok (.invokevirtual 219, 3)) lc_6_219 mo_P_Formula_wantsTicket ⟨Nat.le_of_ble_eq_true rfl, Nat.le_of_ble_eq_true rfl⟩ (Nat.le_of_ble_eq_true rfl) (Nat.le_of_ble_eq_true rfl) c7 q6.1) ?_
      rcases ite_some h with ⟨c8, h⟩ | ⟨c8, h⟩
      · refine ai (r_if_eq_t (pc := 39) (tgt := 70) (by decide +kernel : decode k_P_Parser_takeFormula.2.1 39 = .ok (.ifCond .eq (31), 3)) (by decide) c8) ?_
        exact (ai (r_sub [1, 2, 3, 4, 0] rfl) (P_Parser_takeFormula_70_run (fun _ _ _ _ _ _ q1 q3 => ih q1 q3) hL h))
      · refine ai (r_if_eq_f (pc := 39) 70 (by decide +kernel : decode k_P_Parser_takeFormula.2.1 39 = .ok (.ifCond .eq (31), 3)) (by decide) c8) ?_
        refine ai (p_aload_n (pc := 42) (k := 1) (by decide +kernel : decode k_P_Parser_takeFormula.2.1 42 = .ok (.aload_n 0, 1)) rfl rfl) ?_
        refine ai (p_getr (pc := 43) (PR_768_22 hL) (by decide +kernel : decode k_P_Parser_takeFormula.2.1 43 = .ok (.getfield 25, 3)) lg_6_25 (PC_22 hL).1) ?_
        refine ai (p_getr (pc := 46) (PR_642_16 hL) (by decide +kernel : decode k_P_Parser_takeFormula.2.1 46 = .ok (.getfield 42, 3)) lg_6_42 (PC_16 hL).1) ?_
        refine ai (p_aload_n (pc := 49) (k := 1) (by decide +kernel : decode k_P_Parser_takeFormula.2.1 49 = .ok (.aload_n 0, 1)) rfl rfl) ?_
        refine ai (r_getI (pc := 50) (by decide +kernel : decode k_P_Parser_takeFormula.2.1 50 = .ok (.getfield 71, 3)) lg_6_71 (by decide) (PC_22 hL).1) ?_
        obtain ⟨g9, h⟩ := gd_some h
        refine ai (p_iald (pc := 53) (by decide +kernel : decode k_P_Parser_takeFormula.2.1 53 = .ok (.iaload, 1)) (PC_18 hL).1 (PC_18 hL).2 g9) ?_
        refine ai (r_iconst (pc := 54) (by decide +kernel : decode k_P_Parser_takeFormula.2.1 54 = .ok (.iconst 3, 1)) ic_3) ?_
        rcases ite_some h with ⟨c10, h⟩ | ⟨c10, h⟩
        · refine ai (r_icmp_ne_f (pc := 55) 70 (by decide +kernel : decode k_P_Parser_takeFormula.2.1 55 = .ok (.if_icmp .ne (15), 3)) (by decide) c10) ?_
          refine ai (r_iload (pc := 58) (k := 0) (by decide +kernel : decode k_P_Parser_takeFormula.2.1 58 = .ok (.iload 4, 2)) rfl) ?_
          refine ai (r_bipush (pc := 60) (by decide +kernel : decode k_P_Parser_takeFormula.2.1 60 = .ok (.bipush (8), 2)) (by decide : _ = (8 : Int32))) ?_
          rcases ite_some h with ⟨c11, h⟩ | ⟨c11, h⟩
          · refine ai (r_icmp_lt_t (pc := 62) (tgt := 70) (by decide +kernel : decode k_P_Parser_takeFormula.2.1 62 = .ok (.if_icmp .lt (8), 3)) (by decide) c11) ?_
            exact (ai (r_sub [1, 2, 3, 4, 0] rfl) (P_Parser_takeFormula_70_run (fun _ _ _ _ _ _ q1 q3 => ih q1 q3) hL h))
          · refine ai (r_icmp_lt_f (pc := 62) 70 (by decide +kernel : decode k_P_Parser_takeFormula.2.1 62 = .ok (.if_icmp .lt (8), 3)) (by decide) c11) ?_
            refine ai (p_aload_n (pc := 65) (k := 1) (by decide +kernel : decode k_P_Parser_takeFormula.2.1 65 = .ok (.aload_n 0, 1)) rfl rfl) ?_
            refine ai (r_iconst (pc := 66) (by decide +kernel : decode k_P_Parser_takeFormula.2.1 66 = .ok (.iconst 5, 1)) ic_5) ?_
            obtain ⟨r12, m13, hr12, h⟩ := bn_some h
            have q14 := P_Parser_noteLate_run hL hr12
            have c15 := (PC_22 hL).1
            have hL := q14.2
            refine ai (q_callV (pc := 67) (As := [.int 5]) (st := []) (st2 := []) (b := 22) rfl rfl (by decide +kernel : decode k_P_Parser_takeFormula.2.1 67 = .ok (.invokevirtual 164, 3)) lc_6_164 mo_P_Parser_noteLate ⟨Nat.le_of_ble_eq_true rfl, Nat.le_of_ble_eq_true rfl⟩ (Nat.le_of_ble_eq_true rfl) (Nat.le_of_ble_eq_true rfl) c15 q14.1) ?_
            exact (ai (r_sub [1, 2, 3, 4, 0] rfl) (P_Parser_takeFormula_70_run (fun _ _ _ _ _ _ q1 q3 => ih q1 q3) hL h))
        · refine ai (r_icmp_ne_t (pc := 55) (tgt := 70) (by decide +kernel : decode k_P_Parser_takeFormula.2.1 55 = .ok (.if_icmp .ne (15), 3)) (by decide) c10) ?_
          exact (ai (r_sub [1, 2, 3, 4, 0] rfl) (P_Parser_takeFormula_70_run (fun _ _ _ _ _ _ q1 q3 => ih q1 q3) hL h))
set_option maxRecDepth 100000 in
set_option maxHeartbeats 4000000 in
theorem P_Parser_takeFormula_run {x1 : Option Nat} {x2 : Int32} {m m' : Mem} {r : Int32} (hL : PL m) (h : P_Parser_takeFormula x1 x2 m = some (r, m')) : Run k_P_Parser_takeFormula 0 [(0, .ref 22), (1, va_rf x1), (2, .int x2)] [] m (some (.int r)) m' ∧ PL m' := by
  unfold P_Parser_takeFormula at h
  refine ai (p_aload_n (pc := 0) (k := 0) (by decide +kernel : decode k_P_Parser_takeFormula.2.1 0 = .ok (.aload_n 0, 1)) rfl rfl) ?_
  refine ai (p_getr (pc := 1) (PR_775_22 hL) (by decide +kernel : decode k_P_Parser_takeFormula.2.1 1 = .ok (.getfield 33, 3)) lg_6_33 (PC_22 hL).1) ?_
  refine ai (r_iload_n (pc := 4) (k := 2) (by decide +kernel : decode k_P_Parser_takeFormula.2.1 4 = .ok (.iload_n 2, 1)) rfl rfl) ?_
  obtain ⟨r1, m2, hr1, h⟩ := bn_some h
  have q3 := P_Formula_begin_run hL hr1
  have c4 := (PC_1 hL).1
  have hL := q3.2
  refine ai (q_callV (pc := 5) (As := [.int x2]) (st := []) (st2 := []) (b := 1) rfl rfl (by decide +kernel : decode k_P_Parser_takeFormula.2.1 5 = .ok (.invokevirtual 213, 3)) lc_6_213 mo_P_Formula_begin ⟨Nat.le_of_ble_eq_true rfl, Nat.le_of_ble_eq_true rfl⟩ (Nat.le_of_ble_eq_true rfl) (Nat.le_of_ble_eq_true rfl) c4 q3.1) ?_
  refine ai (r_iconst (pc := 8) (by decide +kernel : decode k_P_Parser_takeFormula.2.1 8 = .ok (.iconst 0, 1)) ic_0) ?_
  refine ai (e_istore_n (pc := 9) rfl (by decide +kernel : decode k_P_Parser_takeFormula.2.1 9 = .ok (.istore_n 3, 1)) rfl (by decide) rfl) ?_
  exact (ai (r_sub [1, 2, 3, 0] rfl) (P_Parser_takeFormula_10_run hL h))
set_option maxRecDepth 100000 in
set_option maxHeartbeats 4000000 in
theorem P_Parser_takeItemName_run {x1 : Option Nat} {m m' : Mem} {r : Int32} (hL : PL m) (h : P_Parser_takeItemName x1 m = some (r, m')) : Run k_P_Parser_takeItemName 0 [(0, .ref 22), (1, va_rf x1)] [] m (some (.int r)) m' ∧ PL m' := by
  unfold P_Parser_takeItemName at h
  refine ai (p_aload_n (pc := 0) (k := 0) (by decide +kernel : decode k_P_Parser_takeItemName.2.1 0 = .ok (.aload_n 0, 1)) rfl rfl) ?_
  obtain ⟨r1, m2, hr1, h⟩ := bn_some h
  have q3 := P_Parser_takeName_run hL hr1
  have c4 := (PC_22 hL).1
  have hL := q3.2
  refine ai (q_callV (pc := 1) (As := []) (st := []) (st2 := [.int r1]) (b := 22) rfl rfl (by decide +kernel : decode k_P_Parser_takeItemName.2.1 1 = .ok (.invokevirtual 168, 3)) lc_6_168 mo_P_Parser_takeName ⟨Nat.le_of_ble_eq_true rfl, Nat.le_of_ble_eq_true rfl⟩ (Nat.le_of_ble_eq_true rfl) (Nat.le_of_ble_eq_true rfl) c4 q3.1) ?_
  refine ai (e_istore_n (pc := 4) rfl (by decide +kernel : decode k_P_Parser_takeItemName.2.1 4 = .ok (.istore_n 2, 1)) rfl (by decide) (by simp [f1, vrc, vrs, cti, ctr, ctl, ctn, cta]) (ls2 := [(2, .int r1), (0, .ref 22), (1, va_rf x1)])) ?_
  obtain ⟨a5, rfl, h9⟩ := gs_some h
  have h := h9
  refine ai (p_aload_n (pc := 5) (k := 2) (by decide +kernel : decode k_P_Parser_takeItemName.2.1 5 = .ok (.aload_n 1, 1)) rfl rfl) ?_
  refine ai (p_aload_n (pc := 6) (k := 1) (by decide +kernel : decode k_P_Parser_takeItemName.2.1 6 = .ok (.aload_n 0, 1)) rfl rfl) ?_
  refine ai (r_getI (pc := 7) (by decide +kernel : decode k_P_Parser_takeItemName.2.1 7 = .ok (.getfield 161, 3)) lg_6_161 (by decide) (PC_22 hL).1) ?_
  obtain ⟨t6, h⟩ := gt_some h
  obtain ⟨m7, hm7, h⟩ := vb_some h
  have hL : PL m7 := by rw [hm7]; exact hL
  have t8 : mT m7 a5 = 3 := by rw [hm7]; exact t6
  refine ai (p_putI (pc := 10) hm7 (by decide +kernel : decode k_P_Parser_takeItemName.2.1 10 = .ok (.putfield 117, 3)) lp_6_117 t6) ?_
  refine ai (r_iload_n (pc := 13) (k := 0) (by decide +kernel : decode k_P_Parser_takeItemName.2.1 13 = .ok (.iload_n 2, 1)) rfl rfl) ?_
  obtain ⟨z9, h⟩ := gz_some h
  cases h
  exact ⟨r_zret z9 rfl (by decide +kernel : decode k_P_Parser_takeItemName.2.1 14 = .ok (.ireturn, 1)), hL⟩
set_option maxRecDepth 100000 in
set_option maxHeartbeats 4000000 in
theorem P_Parser_takeTasks_76_run {m m' : Mem} {r : Int32} (hL : PL m) (h : P_Parser_takeTasks_76 m = some (r, m')) : Run k_P_Parser_takeTasks 76 [(0, .ref 22)] [] m (some (.int r)) m' ∧ PL m' := by
  unfold P_Parser_takeTasks_76 at h
  refine ai (p_aload_n (pc := 76) (k := 0) (by decide +kernel : decode k_P_Parser_takeTasks.2.1 76 = .ok (.aload_n 0, 1)) rfl rfl) ?_
  refine ai (r_iconst (pc := 77) (by decide +kernel : decode k_P_Parser_takeTasks.2.1 77 = .ok (.iconst 2, 1)) ic_2) ?_
  obtain ⟨r1, m2, hr1, h⟩ := bn_some h
  have q3 := P_Parser_fail_run hL hr1
  have c4 := (PC_22 hL).1
  have hL := q3.2
  refine ai (q_callV (pc := 78) (As := [.int 2]) (st := []) (st2 := [.int r1]) (b := 22) rfl rfl (by decide +kernel : decode k_P_Parser_takeTasks.2.1 78 = .ok (.invokevirtual 143, 3)) lc_6_143 mo_P_Parser_fail ⟨Nat.le_of_ble_eq_true rfl, Nat.le_of_ble_eq_true rfl⟩ (Nat.le_of_ble_eq_true rfl) (Nat.le_of_ble_eq_true rfl) c4 q3.1) ?_
  obtain ⟨z5, h⟩ := gz_some h
  cases h
  exact ⟨r_zret z5 rfl (by decide +kernel : decode k_P_Parser_takeTasks.2.1 81 = .ok (.ireturn, 1)), hL⟩
set_option maxRecDepth 100000 in
set_option maxHeartbeats 4000000 in
theorem P_Parser_takeTasks_82_run {k13 : Option Nat → Int32 → Mem → Option (Int32 × Mem)} {x1 : Option Nat} {x2 : Int32} {m m' : Mem} {r : Int32} (hk13 : ∀ (x1 : Option Nat) (x2 : Int32) (m : Mem) (r : Int32) (m' : Mem), PL m → k13 x1 x2 m = some (r, m') → Run k_P_Parser_takeTasks 13 [(0, .ref 22), (1, va_rf x1), (2, .int x2)] [] m (some (.int r)) m' ∧ PL m') (hL : PL m) (h : P_Parser_takeTasks_82 k13 x1 x2 m = some (r, m')) : Run k_P_Parser_takeTasks 82 [(0, .ref 22), (1, va_rf x1), (2, .int x2)] [] m (some (.int r)) m' ∧ PL m' := by
  unfold P_Parser_takeTasks_82 at h
  refine ai (p_aload_n (pc := 82) (k := 0) (by decide +kernel : decode k_P_Parser_takeTasks.2.1 82 = .ok (.aload_n 0, 1)) rfl rfl) ?_
  refine ai (r_iconst (pc := 83) (by decide +kernel : decode k_P_Parser_takeTasks.2.1 83 = .ok (.iconst 0, 1)) ic_0) ?_
  refine ai (r_bipush (pc := 84) (by decide +kernel : decode k_P_Parser_takeTasks.2.1 84 = .ok (.bipush (15), 2)) (by decide : _ = (15 : Int32))) ?_
  obtain ⟨r1, m2, hr1, h⟩ := bn_some h
  have q3 := P_Parser_takeInt_run hL hr1
  have c4 := (PC_22 hL).1
  have hL := q3.2
  refine ai (q_callV (pc := 86) (As := [.int 0, .int 15]) (st := []) (st2 := [.int r1]) (b := 22) rfl rfl (by decide +kernel : decode k_P_Parser_takeTasks.2.1 86 = .ok (.invokevirtual 157, 3)) lc_6_157 mo_P_Parser_takeInt ⟨Nat.le_of_ble_eq_true rfl, Nat.le_of_ble_eq_true rfl⟩ (Nat.le_of_ble_eq_true rfl) (Nat.le_of_ble_eq_true rfl) c4 q3.1) ?_
  rcases ite_some h with ⟨c5, h⟩ | ⟨c5, h⟩
  · refine ai (r_if_ne_f (pc := 89) 94 (by decide +kernel : decode k_P_Parser_takeTasks.2.1 89 = .ok (.ifCond .ne (5), 3)) (by decide) c5) ?_
    refine ai (r_iconst (pc := 92) (by decide +kernel : decode k_P_Parser_takeTasks.2.1 92 = .ok (.iconst 0, 1)) ic_0) ?_
    cases h
    exact ⟨r_zret (by decide) rfl (by decide +kernel : decode k_P_Parser_takeTasks.2.1 93 = .ok (.ireturn, 1)), hL⟩
  · refine ai (r_if_ne_t (pc := 89) (tgt := 94) (by decide +kernel : decode k_P_Parser_takeTasks.2.1 89 = .ok (.ifCond .ne (5), 3)) (by decide) c5) ?_
    obtain ⟨a6, rfl, h9⟩ := gs_some h
    have h := h9
    refine ai (p_aload_n (pc := 94) (k := 1) (by decide +kernel : decode k_P_Parser_takeTasks.2.1 94 = .ok (.aload_n 1, 1)) rfl rfl) ?_
    refine ai (r_dup (pc := 95) (by decide +kernel : decode k_P_Parser_takeTasks.2.1 95 = .ok (.dup, 1)) (rfl)) ?_
    obtain ⟨t7, h⟩ := gt_some h
    refine ai (r_getI (pc := 96) (by decide +kernel : decode k_P_Parser_takeTasks.2.1 96 = .ok (.getfield 200, 3)) lg_6_200 (by decide) t7) ?_
    refine ai (r_iconst (pc := 99) (by decide +kernel : decode k_P_Parser_takeTasks.2.1 99 = .ok (.iconst 1, 1)) ic_1) ?_
    refine ai (p_aload_n (pc := 100) (k := 0) (by decide +kernel : decode k_P_Parser_takeTasks.2.1 100 = .ok (.aload_n 0, 1)) rfl rfl) ?_
    refine ai (r_getI (pc := 101) (by decide +kernel : decode k_P_Parser_takeTasks.2.1 101 = .ok (.getfield 161, 3)) lg_6_161 (by decide) (PC_22 hL).1) ?_
    refine ai (r_ishl (pc := 104) (by decide +kernel : decode k_P_Parser_takeTasks.2.1 104 = .ok (.ishl, 1))) ?_
    refine ai (r_ior (pc := 105) (by decide +kernel : decode k_P_Parser_takeTasks.2.1 105 = .ok (.ior, 1))) ?_
    obtain ⟨m8, hm8, h⟩ := vb_some h
    have hL : PL m8 := by rw [hm8]; exact hL
    have t9 : mT m8 a6 = 3 := by rw [hm8]; exact t7
    refine ai (p_putI (pc := 106) hm8 (by decide +kernel : decode k_P_Parser_takeTasks.2.1 106 = .ok (.putfield 200, 3)) lp_6_200 t7) ?_
    obtain ⟨v10, hv10, h⟩ := vb_some h
    refine ai (e_iinc (pc := 109) (k := 2) hv10 ic_1 (by decide +kernel : decode k_P_Parser_takeTasks.2.1 109 = .ok (.iinc 2 (1), 3)) rfl (by decide) rfl) ?_
    refine ai (r_goto (pc := 112) (tgt := 13) (by decide +kernel : decode k_P_Parser_takeTasks.2.1 112 = .ok (.goto (-99), 3)) (by decide)) ?_
    exact (ai (r_sub [1, 2, 0] rfl) (hk13 (some a6) v10 m8 _ _ hL h))
set_option maxRecDepth 100000 in
set_option maxHeartbeats 4000000 in
theorem P_Parser_takeTasks_54_run {k13 : Option Nat → Int32 → Mem → Option (Int32 × Mem)} {x1 : Option Nat} {x2 : Int32} {m m' : Mem} {r : Int32} (hk13 : ∀ (x1 : Option Nat) (x2 : Int32) (m : Mem) (r : Int32) (m' : Mem), PL m → k13 x1 x2 m = some (r, m') → Run k_P_Parser_takeTasks 13 [(0, .ref 22), (1, va_rf x1), (2, .int x2)] [] m (some (.int r)) m' ∧ PL m') (hL : PL m) (h : P_Parser_takeTasks_54 k13 x1 x2 m = some (r, m')) : Run k_P_Parser_takeTasks 54 [(0, .ref 22), (1, va_rf x1), (2, .int x2)] [] m (some (.int r)) m' ∧ PL m' := by
  unfold P_Parser_takeTasks_54 at h
  refine ai (r_iload_n (pc := 54) (k := 2) (by decide +kernel : decode k_P_Parser_takeTasks.2.1 54 = .ok (.iload_n 2, 1)) rfl rfl) ?_
  refine ai (r_bipush (pc := 55) (by decide +kernel : decode k_P_Parser_takeTasks.2.1 55 = .ok (.bipush (8), 2)) (by decide : _ = (8 : Int32))) ?_
  rcases ite_some h with ⟨c1, h⟩ | ⟨c1, h⟩
  · refine ai (r_icmp_ne_f (pc := 57) 82 (by decide +kernel : decode k_P_Parser_takeTasks.2.1 57 = .ok (.if_icmp .ne (25), 3)) (by decide) c1) ?_
    refine ai (p_aload_n (pc := 60) (k := 0) (by decide +kernel : decode k_P_Parser_takeTasks.2.1 60 = .ok (.aload_n 0, 1)) rfl rfl) ?_
    refine ai (p_getr (pc := 61) (PR_768_22 hL) (by decide +kernel : decode k_P_Parser_takeTasks.2.1 61 = .ok (.getfield 25, 3)) lg_6_25 (PC_22 hL).1) ?_
    refine ai (p_getr (pc := 64) (PR_642_16 hL) (by decide +kernel : decode k_P_Parser_takeTasks.2.1 64 = .ok (.getfield 42, 3)) lg_6_42 (PC_16 hL).1) ?_
    refine ai (p_aload_n (pc := 67) (k := 0) (by decide +kernel : decode k_P_Parser_takeTasks.2.1 67 = .ok (.aload_n 0, 1)) rfl rfl) ?_
    refine ai (r_getI (pc := 68) (by decide +kernel : decode k_P_Parser_takeTasks.2.1 68 = .ok (.getfield 71, 3)) lg_6_71 (by decide) (PC_22 hL).1) ?_
    obtain ⟨g2, h⟩ := gd_some h
    refine ai (p_iald (pc := 71) (by decide +kernel : decode k_P_Parser_takeTasks.2.1 71 = .ok (.iaload, 1)) (PC_18 hL).1 (PC_18 hL).2 g2) ?_
    refine ai (r_iconst (pc := 72) (by decide +kernel : decode k_P_Parser_takeTasks.2.1 72 = .ok (.iconst 3, 1)) ic_3) ?_
    rcases ite_some h with ⟨c3, h⟩ | ⟨c3, h⟩
    · refine ai (r_icmp_ne_f (pc := 73) 82 (by decide +kernel : decode k_P_Parser_takeTasks.2.1 73 = .ok (.if_icmp .ne (9), 3)) (by decide) c3) ?_
      exact (ai (r_sub [0] rfl) (P_Parser_takeTasks_76_run hL h))
    · refine ai (r_icmp_ne_t (pc := 73) (tgt := 82) (by decide +kernel : decode k_P_Parser_takeTasks.2.1 73 = .ok (.if_icmp .ne (9), 3)) (by decide) c3) ?_
      exact (P_Parser_takeTasks_82_run hk13 hL h)
  · refine ai (r_icmp_ne_t (pc := 57) (tgt := 82) (by decide +kernel : decode k_P_Parser_takeTasks.2.1 57 = .ok (.if_icmp .ne (25), 3)) (by decide) c1) ?_
    exact (P_Parser_takeTasks_82_run hk13 hL h)
set_option maxRecDepth 100000 in
set_option maxHeartbeats 4000000 in
theorem P_Parser_takeTasks_41_run {k13 : Option Nat → Int32 → Mem → Option (Int32 × Mem)} {x1 : Option Nat} {x2 : Int32} {m m' : Mem} {r : Int32} (hk13 : ∀ (x1 : Option Nat) (x2 : Int32) (m : Mem) (r : Int32) (m' : Mem), PL m → k13 x1 x2 m = some (r, m') → Run k_P_Parser_takeTasks 13 [(0, .ref 22), (1, va_rf x1), (2, .int x2)] [] m (some (.int r)) m' ∧ PL m') (hL : PL m) (h : P_Parser_takeTasks_41 k13 x1 x2 m = some (r, m')) : Run k_P_Parser_takeTasks 41 [(0, .ref 22), (1, va_rf x1), (2, .int x2)] [] m (some (.int r)) m' ∧ PL m' := by
  unfold P_Parser_takeTasks_41 at h
  refine ai (r_iload_n (pc := 41) (k := 2) (by decide +kernel : decode k_P_Parser_takeTasks.2.1 41 = .ok (.iload_n 2, 1)) rfl rfl) ?_
  rcases ite_some h with ⟨c1, h⟩ | ⟨c1, h⟩
  · refine ai (r_if_le_t (pc := 42) (tgt := 54) (by decide +kernel : decode k_P_Parser_takeTasks.2.1 42 = .ok (.ifCond .le (12), 3)) (by decide) c1) ?_
    exact (P_Parser_takeTasks_54_run hk13 hL h)
  · refine ai (r_if_le_f (pc := 42) 54 (by decide +kernel : decode k_P_Parser_takeTasks.2.1 42 = .ok (.ifCond .le (12), 3)) (by decide) c1) ?_
    refine ai (p_aload_n (pc := 45) (k := 0) (by decide +kernel : decode k_P_Parser_takeTasks.2.1 45 = .ok (.aload_n 0, 1)) rfl rfl) ?_
    obtain ⟨r2, m3, hr2, h⟩ := bn_some h
    have q4 := P_Parser_take_run hL hr2
    have c5 := (PC_22 hL).1
    have hL := q4.2
    refine ai (q_callV (pc := 46) (As := []) (st := []) (st2 := [.int r2]) (b := 22) rfl rfl (by decide +kernel : decode k_P_Parser_takeTasks.2.1 46 = .ok (.invokevirtual 147, 3)) lc_6_147 mo_P_Parser_take ⟨Nat.le_of_ble_eq_true rfl, Nat.le_of_ble_eq_true rfl⟩ (Nat.le_of_ble_eq_true rfl) (Nat.le_of_ble_eq_true rfl) c5 q4.1) ?_
    rcases ite_some h with ⟨c6, h⟩ | ⟨c6, h⟩
    · refine ai (r_if_ne_f (pc := 49) 54 (by decide +kernel : decode k_P_Parser_takeTasks.2.1 49 = .ok (.ifCond .ne (5), 3)) (by decide) c6) ?_
      refine ai (r_iconst (pc := 52) (by decide +kernel : decode k_P_Parser_takeTasks.2.1 52 = .ok (.iconst 0, 1)) ic_0) ?_
      cases h
      exact ⟨r_zret (by decide) rfl (by decide +kernel : decode k_P_Parser_takeTasks.2.1 53 = .ok (.ireturn, 1)), hL⟩
    · refine ai (r_if_ne_t (pc := 49) (tgt := 54) (by decide +kernel : decode k_P_Parser_takeTasks.2.1 49 = .ok (.ifCond .ne (5), 3)) (by decide) c6) ?_
      exact (P_Parser_takeTasks_54_run hk13 hL h)
set_option maxRecDepth 100000 in
set_option maxHeartbeats 4000000 in
theorem P_Parser_takeTasks_13_run {n : Nat} {x1 : Option Nat} {x2 : Int32} {m m' : Mem} {r : Int32} (hL : PL m) (h : P_Parser_takeTasks_13 n x1 x2 m = some (r, m')) : Run k_P_Parser_takeTasks 13 [(0, .ref 22), (1, va_rf x1), (2, .int x2)] [] m (some (.int r)) m' ∧ PL m' := by
  induction n generalizing x1 x2 m r m' with
  | zero => exact absurd h (by simp [P_Parser_takeTasks_13])
  | succ n ih =>
    rw [P_Parser_takeTasks_13.eq_2] at h
    refine ai (r_iload_n (pc := 13) (k := 2) (by decide +kernel : decode k_P_Parser_takeTasks.2.1 13 = .ok (.iload_n 2, 1)) rfl rfl) ?_
    refine ai (r_bipush (pc := 14) (by decide +kernel : decode k_P_Parser_takeTasks.2.1 14 = .ok (.bipush (8), 2)) (by decide : _ = (8 : Int32))) ?_
    rcases ite_some h with ⟨c1, h⟩ | ⟨c1, h⟩
    · refine ai (r_icmp_gt_t (pc := 16) (tgt := 115) (by decide +kernel : decode k_P_Parser_takeTasks.2.1 16 = .ok (.if_icmp .gt (99), 3)) (by decide) c1) ?_
      refine ai (r_iconst (pc := 115) (by decide +kernel : decode k_P_Parser_takeTasks.2.1 115 = .ok (.iconst 0, 1)) ic_0) ?_
      cases h
      exact ⟨r_zret (by decide) rfl (by decide +kernel : decode k_P_Parser_takeTasks.2.1 116 = .ok (.ireturn, 1)), hL⟩
    · refine ai (r_icmp_gt_f (pc := 16) 115 (by decide +kernel : decode k_P_Parser_takeTasks.2.1 16 = .ok (.if_icmp .gt (99), 3)) (by decide) c1) ?_
      refine ai (r_iload_n (pc := 19) (k := 2) (by decide +kernel : decode k_P_Parser_takeTasks.2.1 19 = .ok (.iload_n 2, 1)) rfl rfl) ?_
      rcases ite_some h with ⟨c2, h⟩ | ⟨c2, h⟩
      · refine ai (r_if_le_t (pc := 20) (tgt := 41) (by decide +kernel : decode k_P_Parser_takeTasks.2.1 20 = .ok (.ifCond .le (21), 3)) (by decide) c2) ?_
        exact (P_Parser_takeTasks_41_run (fun _ _ _ _ _ q1 q3 => ih q1 q3) hL h)
      · refine ai (r_if_le_f (pc := 20) 41 (by decide +kernel : decode k_P_Parser_takeTasks.2.1 20 = .ok (.ifCond .le (21), 3)) (by decide) c2) ?_
        refine ai (p_aload_n (pc := 23) (k := 0) (by decide +kernel : decode k_P_Parser_takeTasks.2.1 23 = .ok (.aload_n 0, 1)) rfl rfl) ?_
        refine ai (p_getr (pc := 24) (PR_768_22 hL) (by decide +kernel : decode k_P_Parser_takeTasks.2.1 24 = .ok (.getfield 25, 3)) lg_6_25 (PC_22 hL).1) ?_
        refine ai (p_getr (pc := 27) (PR_642_16 hL) (by decide +kernel : decode k_P_Parser_takeTasks.2.1 27 = .ok (.getfield 42, 3)) lg_6_42 (PC_16 hL).1) ?_
        refine ai (p_aload_n (pc := 30) (k := 0) (by decide +kernel : decode k_P_Parser_takeTasks.2.1 30 = .ok (.aload_n 0, 1)) rfl rfl) ?_
        refine ai (r_getI (pc := 31) (by decide +kernel : decode k_P_Parser_takeTasks.2.1 31 = .ok (.getfield 71, 3)) lg_6_71 (by decide) (PC_22 hL).1) ?_
        obtain ⟨g3, h⟩ := gd_some h
        refine ai (p_iald (pc := 34) (by decide +kernel : decode k_P_Parser_takeTasks.2.1 34 = .ok (.iaload, 1)) (PC_18 hL).1 (PC_18 hL).2 g3) ?_
        refine ai (r_iconst (pc := 35) (by decide +kernel : decode k_P_Parser_takeTasks.2.1 35 = .ok (.iconst 5, 1)) ic_5) ?_
        rcases ite_some h with ⟨c4, h⟩ | ⟨c4, h⟩
        · refine ai (r_icmp_eq_t (pc := 36) (tgt := 41) (by decide +kernel : decode k_P_Parser_takeTasks.2.1 36 = .ok (.if_icmp .eq (5), 3)) (by decide) c4) ?_
          exact (P_Parser_takeTasks_41_run (fun _ _ _ _ _ q1 q3 => ih q1 q3) hL h)
        · refine ai (r_icmp_eq_f (pc := 36) 41 (by decide +kernel : decode k_P_Parser_takeTasks.2.1 36 = .ok (.if_icmp .eq (5), 3)) (by decide) c4) ?_
          refine ai (r_iconst (pc := 39) (by decide +kernel : decode k_P_Parser_takeTasks.2.1 39 = .ok (.iconst 1, 1)) ic_1) ?_
          cases h
          exact ⟨r_zret (by decide) rfl (by decide +kernel : decode k_P_Parser_takeTasks.2.1 40 = .ok (.ireturn, 1)), hL⟩
set_option maxRecDepth 100000 in
set_option maxHeartbeats 4000000 in
theorem P_Parser_takeTasks_run {x1 : Option Nat} {m m' : Mem} {r : Int32} (hL : PL m) (h : P_Parser_takeTasks x1 m = some (r, m')) : Run k_P_Parser_takeTasks 0 [(0, .ref 22), (1, va_rf x1)] [] m (some (.int r)) m' ∧ PL m' := by
  unfold P_Parser_takeTasks at h
  refine ai (p_aload_n (pc := 0) (k := 0) (by decide +kernel : decode k_P_Parser_takeTasks.2.1 0 = .ok (.aload_n 0, 1)) rfl rfl) ?_
  refine ai (r_bipush (pc := 1) (by decide +kernel : decode k_P_Parser_takeTasks.2.1 1 = .ok (.bipush (48), 2)) (by decide : _ = (48 : Int32))) ?_
  obtain ⟨r1, m2, hr1, h⟩ := bn_some h
  have q3 := P_Parser_takeKind_run hL hr1
  have c4 := (PC_22 hL).1
  have hL := q3.2
  refine ai (q_callV (pc := 3) (As := [.int 48]) (st := []) (st2 := [.int r1]) (b := 22) rfl rfl (by decide +kernel : decode k_P_Parser_takeTasks.2.1 3 = .ok (.invokevirtual 154, 3)) lc_6_154 mo_P_Parser_takeKind ⟨Nat.le_of_ble_eq_true rfl, Nat.le_of_ble_eq_true rfl⟩ (Nat.le_of_ble_eq_true rfl) (Nat.le_of_ble_eq_true rfl) c4 q3.1) ?_
  rcases ite_some h with ⟨c5, h⟩ | ⟨c5, h⟩
  · refine ai (r_if_ne_f (pc := 6) 11 (by decide +kernel : decode k_P_Parser_takeTasks.2.1 6 = .ok (.ifCond .ne (5), 3)) (by decide) c5) ?_
    refine ai (r_iconst (pc := 9) (by decide +kernel : decode k_P_Parser_takeTasks.2.1 9 = .ok (.iconst 0, 1)) ic_0) ?_
    cases h
    exact ⟨r_zret (by decide) rfl (by decide +kernel : decode k_P_Parser_takeTasks.2.1 10 = .ok (.ireturn, 1)), hL⟩
  · refine ai (r_if_ne_t (pc := 6) (tgt := 11) (by decide +kernel : decode k_P_Parser_takeTasks.2.1 6 = .ok (.ifCond .ne (5), 3)) (by decide) c5) ?_
    refine ai (r_iconst (pc := 11) (by decide +kernel : decode k_P_Parser_takeTasks.2.1 11 = .ok (.iconst 0, 1)) ic_0) ?_
    refine ai (e_istore_n (pc := 12) rfl (by decide +kernel : decode k_P_Parser_takeTasks.2.1 12 = .ok (.istore_n 2, 1)) rfl (by decide) (by simp [f1, vrc, vrs, cti, ctr, ctl, ctn, cta]) (ls2 := [(2, .int 0), (0, .ref 22), (1, va_rf x1)])) ?_
    exact (ai (r_sub [1, 2, 0] rfl) (P_Parser_takeTasks_13_run hL h))
set_option maxRecDepth 100000 in
set_option maxHeartbeats 4000000 in
theorem P_Parser_takeMargin_run {x1 : Option Nat} {m m' : Mem} {r : Int32} (hL : PL m) (h : P_Parser_takeMargin x1 m = some (r, m')) : Run k_P_Parser_takeMargin 0 [(0, .ref 22), (1, va_rf x1)] [] m (some (.int r)) m' ∧ PL m' := by
  unfold P_Parser_takeMargin at h
  refine ai (p_aload_n (pc := 0) (k := 0) (by decide +kernel : decode k_P_Parser_takeMargin.2.1 0 = .ok (.aload_n 0, 1)) rfl rfl) ?_
  refine ai (p_getr (pc := 1) (PR_768_22 hL) (by decide +kernel : decode k_P_Parser_takeMargin.2.1 1 = .ok (.getfield 25, 3)) lg_6_25 (PC_22 hL).1) ?_
  refine ai (p_getr (pc := 4) (PR_642_16 hL) (by decide +kernel : decode k_P_Parser_takeMargin.2.1 4 = .ok (.getfield 42, 3)) lg_6_42 (PC_16 hL).1) ?_
  refine ai (p_aload_n (pc := 7) (k := 0) (by decide +kernel : decode k_P_Parser_takeMargin.2.1 7 = .ok (.aload_n 0, 1)) rfl rfl) ?_
  refine ai (r_getI (pc := 8) (by decide +kernel : decode k_P_Parser_takeMargin.2.1 8 = .ok (.getfield 71, 3)) lg_6_71 (by decide) (PC_22 hL).1) ?_
  obtain ⟨g1, h⟩ := gd_some h
  refine ai (p_iald (pc := 11) (by decide +kernel : decode k_P_Parser_takeMargin.2.1 11 = .ok (.iaload, 1)) (PC_18 hL).1 (PC_18 hL).2 g1) ?_
  refine ai (r_bipush (pc := 12) (by decide +kernel : decode k_P_Parser_takeMargin.2.1 12 = .ok (.bipush (40), 2)) (by decide : _ = (40 : Int32))) ?_
  rcases ite_some h with ⟨c2, h⟩ | ⟨c2, h⟩
  · refine ai (r_icmp_ne_f (pc := 14) 39 (by decide +kernel : decode k_P_Parser_takeMargin.2.1 14 = .ok (.if_icmp .ne (25), 3)) (by decide) c2) ?_
    refine ai (p_aload_n (pc := 17) (k := 0) (by decide +kernel : decode k_P_Parser_takeMargin.2.1 17 = .ok (.aload_n 0, 1)) rfl rfl) ?_
    obtain ⟨r3, m4, hr3, h⟩ := bn_some h
    have q5 := P_Parser_take_run hL hr3
    have c6 := (PC_22 hL).1
    have hL := q5.2
    refine ai (q_callV (pc := 18) (As := []) (st := []) (st2 := [.int r3]) (b := 22) rfl rfl (by decide +kernel : decode k_P_Parser_takeMargin.2.1 18 = .ok (.invokevirtual 147, 3)) lc_6_147 mo_P_Parser_take ⟨Nat.le_of_ble_eq_true rfl, Nat.le_of_ble_eq_true rfl⟩ (Nat.le_of_ble_eq_true rfl) (Nat.le_of_ble_eq_true rfl) c6 q5.1) ?_
    rcases ite_some h with ⟨c7, h⟩ | ⟨c7, h⟩
    · refine ai (r_if_eq_t (pc := 21) (tgt := 37) (by decide +kernel : decode k_P_Parser_takeMargin.2.1 21 = .ok (.ifCond .eq (16), 3)) (by decide) c7) ?_
      refine ai (r_iconst (pc := 37) (by decide +kernel : decode k_P_Parser_takeMargin.2.1 37 = .ok (.iconst 0, 1)) ic_0) ?_
      cases h
      exact ⟨r_zret (by decide) rfl (by decide +kernel : decode k_P_Parser_takeMargin.2.1 38 = .ok (.ireturn, 1)), hL⟩
    · refine ai (r_if_eq_f (pc := 21) 37 (by decide +kernel : decode k_P_Parser_takeMargin.2.1 21 = .ok (.ifCond .eq (16), 3)) (by decide) c7) ?_
      refine ai (p_aload_n (pc := 24) (k := 0) (by decide +kernel : decode k_P_Parser_takeMargin.2.1 24 = .ok (.aload_n 0, 1)) rfl rfl) ?_
      refine ai (r_aload_n (pc := 25) (k := 1) (by decide +kernel : decode k_P_Parser_takeMargin.2.1 25 = .ok (.aload_n 1, 1)) rfl rfl) ?_
      refine ai (r_iconst (pc := 26) (by decide +kernel : decode k_P_Parser_takeMargin.2.1 26 = .ok (.iconst 0, 1)) ic_0) ?_
      obtain ⟨r8, m9, hr8, h⟩ := bn_some h
      have q10 := P_Parser_takeFormula_run hL hr8
      have c11 := (PC_22 hL).1
      have hL := q10.2
      refine ai (q_callV (pc := 27) (As := [va_rf x1, .int 0]) (st := []) (st2 := [.int r8]) (b := 22) (by simp [lv_args, vrc, vrs, cti, ctr, ctl, ctn, cta]) rfl (by decide +kernel : decode k_P_Parser_takeMargin.2.1 27 = .ok (.invokevirtual 181, 3)) lc_6_181 mo_P_Parser_takeFormula ⟨Nat.le_of_ble_eq_true rfl, Nat.le_of_ble_eq_true rfl⟩ (by simp [lg_sl, vrc, vrs, cti, ctr, ctl, ctn, cta, k_P_Parser_takeFormula]) (Nat.le_of_ble_eq_true rfl) c11 q10.1) ?_
      rcases ite_some h with ⟨c12, h⟩ | ⟨c12, h⟩
      · refine ai (r_if_eq_t (pc := 30) (tgt := 37) (by decide +kernel : decode k_P_Parser_takeMargin.2.1 30 = .ok (.ifCond .eq (7), 3)) (by decide) c12) ?_
        refine ai (r_iconst (pc := 37) (by decide +kernel : decode k_P_Parser_takeMargin.2.1 37 = .ok (.iconst 0, 1)) ic_0) ?_
        cases h
        exact ⟨r_zret (by decide) rfl (by decide +kernel : decode k_P_Parser_takeMargin.2.1 38 = .ok (.ireturn, 1)), hL⟩
      · refine ai (r_if_eq_f (pc := 30) 37 (by decide +kernel : decode k_P_Parser_takeMargin.2.1 30 = .ok (.ifCond .eq (7), 3)) (by decide) c12) ?_
        refine ai (r_iconst (pc := 33) (by decide +kernel : decode k_P_Parser_takeMargin.2.1 33 = .ok (.iconst 1, 1)) ic_1) ?_
        refine ai (r_goto (pc := 34) (tgt := 38) (by decide +kernel : decode k_P_Parser_takeMargin.2.1 34 = .ok (.goto (4), 3)) (by decide)) ?_
        cases h
        exact ⟨r_zret (by decide) rfl (by decide +kernel : decode k_P_Parser_takeMargin.2.1 38 = .ok (.ireturn, 1)), hL⟩
  · refine ai (r_icmp_ne_t (pc := 14) (tgt := 39) (by decide +kernel : decode k_P_Parser_takeMargin.2.1 14 = .ok (.if_icmp .ne (25), 3)) (by decide) c2) ?_
    refine ai (p_aload_n (pc := 39) (k := 0) (by decide +kernel : decode k_P_Parser_takeMargin.2.1 39 = .ok (.aload_n 0, 1)) rfl rfl) ?_
    refine ai (r_bipush (pc := 40) (by decide +kernel : decode k_P_Parser_takeMargin.2.1 40 = .ok (.bipush (49), 2)) (by decide : _ = (49 : Int32))) ?_
    obtain ⟨r13, m14, hr13, h⟩ := bn_some h
    have q15 := P_Parser_takeKind_run hL hr13
    have c16 := (PC_22 hL).1
    have hL := q15.2
    refine ai (q_callV (pc := 42) (As := [.int 49]) (st := []) (st2 := [.int r13]) (b := 22) rfl rfl (by decide +kernel : decode k_P_Parser_takeMargin.2.1 42 = .ok (.invokevirtual 154, 3)) lc_6_154 mo_P_Parser_takeKind ⟨Nat.le_of_ble_eq_true rfl, Nat.le_of_ble_eq_true rfl⟩ (Nat.le_of_ble_eq_true rfl) (Nat.le_of_ble_eq_true rfl) c16 q15.1) ?_
    rcases ite_some h with ⟨c17, h⟩ | ⟨c17, h⟩
    · refine ai (r_if_eq_t (pc := 45) (tgt := 55) (by decide +kernel : decode k_P_Parser_takeMargin.2.1 45 = .ok (.ifCond .eq (10), 3)) (by decide) c17) ?_
      refine ai (r_iconst (pc := 55) (by decide +kernel : decode k_P_Parser_takeMargin.2.1 55 = .ok (.iconst 0, 1)) ic_0) ?_
      cases h
      exact ⟨r_zret (by decide) rfl (by decide +kernel : decode k_P_Parser_takeMargin.2.1 56 = .ok (.ireturn, 1)), hL⟩
    · refine ai (r_if_eq_f (pc := 45) 55 (by decide +kernel : decode k_P_Parser_takeMargin.2.1 45 = .ok (.ifCond .eq (10), 3)) (by decide) c17) ?_
      refine ai (p_aload_n (pc := 48) (k := 0) (by decide +kernel : decode k_P_Parser_takeMargin.2.1 48 = .ok (.aload_n 0, 1)) rfl rfl) ?_
      obtain ⟨r18, m19, hr18, h⟩ := bn_some h
      have q20 := P_Parser_takeName_run hL hr18
      have c21 := (PC_22 hL).1
      have hL := q20.2
      refine ai (q_callV (pc := 49) (As := []) (st := []) (st2 := [.int r18]) (b := 22) rfl rfl (by decide +kernel : decode k_P_Parser_takeMargin.2.1 49 = .ok (.invokevirtual 168, 3)) lc_6_168 mo_P_Parser_takeName ⟨Nat.le_of_ble_eq_true rfl, Nat.le_of_ble_eq_true rfl⟩ (Nat.le_of_ble_eq_true rfl) (Nat.le_of_ble_eq_true rfl) c21 q20.1) ?_
      rcases ite_some h with ⟨c22, h⟩ | ⟨c22, h⟩
      · refine ai (r_if_ne_f (pc := 52) 57 (by decide +kernel : decode k_P_Parser_takeMargin.2.1 52 = .ok (.ifCond .ne (5), 3)) (by decide) c22) ?_
        refine ai (r_iconst (pc := 55) (by decide +kernel : decode k_P_Parser_takeMargin.2.1 55 = .ok (.iconst 0, 1)) ic_0) ?_
        cases h
        exact ⟨r_zret (by decide) rfl (by decide +kernel : decode k_P_Parser_takeMargin.2.1 56 = .ok (.ireturn, 1)), hL⟩
      · refine ai (r_if_ne_t (pc := 52) (tgt := 57) (by decide +kernel : decode k_P_Parser_takeMargin.2.1 52 = .ok (.ifCond .ne (5), 3)) (by decide) c22) ?_
        obtain ⟨a23, rfl, h9⟩ := gs_some h
        have h := h9
        refine ai (p_aload_n (pc := 57) (k := 1) (by decide +kernel : decode k_P_Parser_takeMargin.2.1 57 = .ok (.aload_n 1, 1)) rfl rfl) ?_
        refine ai (p_aload_n (pc := 58) (k := 0) (by decide +kernel : decode k_P_Parser_takeMargin.2.1 58 = .ok (.aload_n 0, 1)) rfl rfl) ?_
        refine ai (r_getI (pc := 59) (by decide +kernel : decode k_P_Parser_takeMargin.2.1 59 = .ok (.getfield 161, 3)) lg_6_161 (by decide) (PC_22 hL).1) ?_
        obtain ⟨t24, h⟩ := gt_some h
        obtain ⟨m25, hm25, h⟩ := vb_some h
        have hL : PL m25 := by rw [hm25]; exact hL
        have t26 : mT m25 a23 = 3 := by rw [hm25]; exact t24
        refine ai (p_putI (pc := 62) hm25 (by decide +kernel : decode k_P_Parser_takeMargin.2.1 62 = .ok (.putfield 203, 3)) lp_6_203 t24) ?_
        refine ai (p_aload_n (pc := 65) (k := 0) (by decide +kernel : decode k_P_Parser_takeMargin.2.1 65 = .ok (.aload_n 0, 1)) rfl rfl) ?_
        obtain ⟨r27, m28, hr27, h⟩ := bn_some h
        have q29 := P_Parser_takeName_run hL hr27
        have c30 := (PC_22 hL).1
        have hL := q29.2
        refine ai (q_callV (pc := 66) (As := []) (st := []) (st2 := [.int r27]) (b := 22) rfl rfl (by decide +kernel : decode k_P_Parser_takeMargin.2.1 66 = .ok (.invokevirtual 168, 3)) lc_6_168 mo_P_Parser_takeName ⟨Nat.le_of_ble_eq_true rfl, Nat.le_of_ble_eq_true rfl⟩ (Nat.le_of_ble_eq_true rfl) (Nat.le_of_ble_eq_true rfl) c30 q29.1) ?_
        rcases ite_some h with ⟨c31, h⟩ | ⟨c31, h⟩
        · refine ai (r_if_ne_f (pc := 69) 74 (by decide +kernel : decode k_P_Parser_takeMargin.2.1 69 = .ok (.ifCond .ne (5), 3)) (by decide) c31) ?_
          refine ai (r_iconst (pc := 72) (by decide +kernel : decode k_P_Parser_takeMargin.2.1 72 = .ok (.iconst 0, 1)) ic_0) ?_
          cases h
          exact ⟨r_zret (by decide) rfl (by decide +kernel : decode k_P_Parser_takeMargin.2.1 73 = .ok (.ireturn, 1)), hL⟩
        · refine ai (r_if_ne_t (pc := 69) (tgt := 74) (by decide +kernel : decode k_P_Parser_takeMargin.2.1 69 = .ok (.ifCond .ne (5), 3)) (by decide) c31) ?_
          refine ai (p_aload_n (pc := 74) (k := 1) (by decide +kernel : decode k_P_Parser_takeMargin.2.1 74 = .ok (.aload_n 1, 1)) rfl rfl) ?_
          refine ai (p_aload_n (pc := 75) (k := 0) (by decide +kernel : decode k_P_Parser_takeMargin.2.1 75 = .ok (.aload_n 0, 1)) rfl rfl) ?_
          refine ai (r_getI (pc := 76) (by decide +kernel : decode k_P_Parser_takeMargin.2.1 76 = .ok (.getfield 161, 3)) lg_6_161 (by decide) (PC_22 hL).1) ?_
          obtain ⟨t32, h⟩ := gt_some h
          obtain ⟨m33, hm33, h⟩ := vb_some h
          have hL : PL m33 := by rw [hm33]; exact hL
          have t34 : mT m33 a23 = 3 := by rw [hm33]; exact t32
          refine ai (p_putI (pc := 79) hm33 (by decide +kernel : decode k_P_Parser_takeMargin.2.1 79 = .ok (.putfield 206, 3)) lp_6_206 t32) ?_
          refine ai (p_aload_n (pc := 82) (k := 0) (by decide +kernel : decode k_P_Parser_takeMargin.2.1 82 = .ok (.aload_n 0, 1)) rfl rfl) ?_
          refine ai (r_bipush (pc := 83) (by decide +kernel : decode k_P_Parser_takeMargin.2.1 83 = .ok (.bipush (50), 2)) (by decide : _ = (50 : Int32))) ?_
          obtain ⟨r35, m36, hr35, h⟩ := bn_some h
          have q37 := P_Parser_takeKind_run hL hr35
          have c38 := (PC_22 hL).1
          have hL := q37.2
          refine ai (q_callV (pc := 85) (As := [.int 50]) (st := []) (st2 := [.int r35]) (b := 22) rfl rfl (by decide +kernel : decode k_P_Parser_takeMargin.2.1 85 = .ok (.invokevirtual 154, 3)) lc_6_154 mo_P_Parser_takeKind ⟨Nat.le_of_ble_eq_true rfl, Nat.le_of_ble_eq_true rfl⟩ (Nat.le_of_ble_eq_true rfl) (Nat.le_of_ble_eq_true rfl) c38 q37.1) ?_
          rcases ite_some h with ⟨c39, h⟩ | ⟨c39, h⟩
          · refine ai (r_if_eq_t (pc := 88) (tgt := 104) (by decide +kernel : decode k_P_Parser_takeMargin.2.1 88 = .ok (.ifCond .eq (16), 3)) (by decide) c39) ?_
            refine ai (r_iconst (pc := 104) (by decide +kernel : decode k_P_Parser_takeMargin.2.1 104 = .ok (.iconst 0, 1)) ic_0) ?_
            cases h
            exact ⟨r_zret (by decide) rfl (by decide +kernel : decode k_P_Parser_takeMargin.2.1 105 = .ok (.ireturn, 1)), hL⟩
          · refine ai (r_if_eq_f (pc := 88) 104 (by decide +kernel : decode k_P_Parser_takeMargin.2.1 88 = .ok (.ifCond .eq (16), 3)) (by decide) c39) ?_
            refine ai (p_aload_n (pc := 91) (k := 0) (by decide +kernel : decode k_P_Parser_takeMargin.2.1 91 = .ok (.aload_n 0, 1)) rfl rfl) ?_
            refine ai (p_aload_n (pc := 92) (k := 1) (by decide +kernel : decode k_P_Parser_takeMargin.2.1 92 = .ok (.aload_n 1, 1)) rfl rfl) ?_
            refine ai (r_iconst (pc := 93) (by decide +kernel : decode k_P_Parser_takeMargin.2.1 93 = .ok (.iconst 0, 1)) ic_0) ?_
            obtain ⟨r40, m41, hr40, h⟩ := bn_some h
            have q42 := P_Parser_takeFormula_run hL hr40
            have c43 := (PC_22 hL).1
            have hL := q42.2
            refine ai (q_callV (pc := 94) (As := [.ref a23, .int 0]) (st := []) (st2 := [.int r40]) (b := 22) rfl rfl (by decide +kernel : decode k_P_Parser_takeMargin.2.1 94 = .ok (.invokevirtual 181, 3)) lc_6_181 mo_P_Parser_takeFormula ⟨Nat.le_of_ble_eq_true rfl, Nat.le_of_ble_eq_true rfl⟩ (Nat.le_of_ble_eq_true rfl) (Nat.le_of_ble_eq_true rfl) c43 q42.1) ?_
            rcases ite_some h with ⟨c44, h⟩ | ⟨c44, h⟩
            · refine ai (r_if_eq_t (pc := 97) (tgt := 104) (by decide +kernel : decode k_P_Parser_takeMargin.2.1 97 = .ok (.ifCond .eq (7), 3)) (by decide) c44) ?_
              refine ai (r_iconst (pc := 104) (by decide +kernel : decode k_P_Parser_takeMargin.2.1 104 = .ok (.iconst 0, 1)) ic_0) ?_
              cases h
              exact ⟨r_zret (by decide) rfl (by decide +kernel : decode k_P_Parser_takeMargin.2.1 105 = .ok (.ireturn, 1)), hL⟩
            · refine ai (r_if_eq_f (pc := 97) 104 (by decide +kernel : decode k_P_Parser_takeMargin.2.1 97 = .ok (.ifCond .eq (7), 3)) (by decide) c44) ?_
              refine ai (r_iconst (pc := 100) (by decide +kernel : decode k_P_Parser_takeMargin.2.1 100 = .ok (.iconst 1, 1)) ic_1) ?_
              refine ai (r_goto (pc := 101) (tgt := 105) (by decide +kernel : decode k_P_Parser_takeMargin.2.1 101 = .ok (.goto (4), 3)) (by decide)) ?_
              cases h
              exact ⟨r_zret (by decide) rfl (by decide +kernel : decode k_P_Parser_takeMargin.2.1 105 = .ok (.ireturn, 1)), hL⟩
set_option maxRecDepth 100000 in
set_option maxHeartbeats 4000000 in
theorem P_Parser_takeBars_56_run {m m' : Mem} {r : Int32} (hL : PL m) (h : P_Parser_takeBars_56 m = some (r, m')) : Run k_P_Parser_takeBars 56 [(0, .ref 22)] [] m (some (.int r)) m' ∧ PL m' := by
  unfold P_Parser_takeBars_56 at h
  refine ai (p_aload_n (pc := 56) (k := 0) (by decide +kernel : decode k_P_Parser_takeBars.2.1 56 = .ok (.aload_n 0, 1)) rfl rfl) ?_
  refine ai (r_iconst (pc := 57) (by decide +kernel : decode k_P_Parser_takeBars.2.1 57 = .ok (.iconst 2, 1)) ic_2) ?_
  obtain ⟨r1, m2, hr1, h⟩ := bn_some h
  have q3 := P_Parser_fail_run hL hr1
  have c4 := (PC_22 hL).1
  have hL := q3.2
  refine ai (q_callV (pc := 58) (As := [.int 2]) (st := []) (st2 := [.int r1]) (b := 22) rfl rfl (by decide +kernel : decode k_P_Parser_takeBars.2.1 58 = .ok (.invokevirtual 143, 3)) lc_6_143 mo_P_Parser_fail ⟨Nat.le_of_ble_eq_true rfl, Nat.le_of_ble_eq_true rfl⟩ (Nat.le_of_ble_eq_true rfl) (Nat.le_of_ble_eq_true rfl) c4 q3.1) ?_
  obtain ⟨z5, h⟩ := gz_some h
  cases h
  exact ⟨r_zret z5 rfl (by decide +kernel : decode k_P_Parser_takeBars.2.1 61 = .ok (.ireturn, 1)), hL⟩
set_option maxRecDepth 100000 in
set_option maxHeartbeats 4000000 in
theorem P_Parser_takeBars_62_run {k2 : Option Nat → Int32 → Mem → Option (Int32 × Mem)} {x1 : Option Nat} {x2 : Int32} {m m' : Mem} {r : Int32} (hk2 : ∀ (x1 : Option Nat) (x2 : Int32) (m : Mem) (r : Int32) (m' : Mem), PL m → k2 x1 x2 m = some (r, m') → Run k_P_Parser_takeBars 2 [(0, .ref 22), (1, va_rf x1), (2, .int x2)] [] m (some (.int r)) m' ∧ PL m') (hL : PL m) (h : P_Parser_takeBars_62 k2 x1 x2 m = some (r, m')) : Run k_P_Parser_takeBars 62 [(0, .ref 22), (1, va_rf x1), (2, .int x2)] [] m (some (.int r)) m' ∧ PL m' := by
  unfold P_Parser_takeBars_62 at h
  refine ai (p_aload_n (pc := 62) (k := 0) (by decide +kernel : decode k_P_Parser_takeBars.2.1 62 = .ok (.aload_n 0, 1)) rfl rfl) ?_
  obtain ⟨r1, m2, hr1, h⟩ := bn_some h
  have q3 := P_Parser_takeName_run hL hr1
  have c4 := (PC_22 hL).1
  have hL := q3.2
  refine ai (q_callV (pc := 63) (As := []) (st := []) (st2 := [.int r1]) (b := 22) rfl rfl (by decide +kernel : decode k_P_Parser_takeBars.2.1 63 = .ok (.invokevirtual 168, 3)) lc_6_168 mo_P_Parser_takeName ⟨Nat.le_of_ble_eq_true rfl, Nat.le_of_ble_eq_true rfl⟩ (Nat.le_of_ble_eq_true rfl) (Nat.le_of_ble_eq_true rfl) c4 q3.1) ?_
  rcases ite_some h with ⟨c5, h⟩ | ⟨c5, h⟩
  · refine ai (r_if_ne_f (pc := 66) 71 (by decide +kernel : decode k_P_Parser_takeBars.2.1 66 = .ok (.ifCond .ne (5), 3)) (by decide) c5) ?_
    refine ai (r_iconst (pc := 69) (by decide +kernel : decode k_P_Parser_takeBars.2.1 69 = .ok (.iconst 0, 1)) ic_0) ?_
    cases h
    exact ⟨r_zret (by decide) rfl (by decide +kernel : decode k_P_Parser_takeBars.2.1 70 = .ok (.ireturn, 1)), hL⟩
  · refine ai (r_if_ne_t (pc := 66) (tgt := 71) (by decide +kernel : decode k_P_Parser_takeBars.2.1 66 = .ok (.ifCond .ne (5), 3)) (by decide) c5) ?_
    obtain ⟨a6, rfl, h9⟩ := gs_some h
    have h := h9
    refine ai (p_aload_n (pc := 71) (k := 1) (by decide +kernel : decode k_P_Parser_takeBars.2.1 71 = .ok (.aload_n 1, 1)) rfl rfl) ?_
    refine ai (r_dup (pc := 72) (by decide +kernel : decode k_P_Parser_takeBars.2.1 72 = .ok (.dup, 1)) (rfl)) ?_
    obtain ⟨t7, h⟩ := gt_some h
    refine ai (r_getL (pc := 73) (by decide +kernel : decode k_P_Parser_takeBars.2.1 73 = .ok (.getfield 209, 3)) lg_6_209 t7) ?_
    refine ai (r_lconst (pc := 76) (x := 1) (by decide +kernel : decode k_P_Parser_takeBars.2.1 76 = .ok (.lconst 1, 1)) (by decide)) ?_
    refine ai (p_aload_n (pc := 77) (k := 0) (by decide +kernel : decode k_P_Parser_takeBars.2.1 77 = .ok (.aload_n 0, 1)) rfl rfl) ?_
    refine ai (r_getI (pc := 78) (by decide +kernel : decode k_P_Parser_takeBars.2.1 78 = .ok (.getfield 161, 3)) lg_6_161 (by decide) (PC_22 hL).1) ?_
    refine ai (r_lshl (pc := 81) (by decide +kernel : decode k_P_Parser_takeBars.2.1 81 = .ok (.lshl, 1))) ?_
    refine ai (r_lor (pc := 82) (by decide +kernel : decode k_P_Parser_takeBars.2.1 82 = .ok (.lor, 1))) ?_
    obtain ⟨m8, hm8, h⟩ := vb_some h
    have hL : PL m8 := by rw [hm8]; exact hL
    have t9 : mT m8 a6 = 3 := by rw [hm8]; exact t7
    refine ai (p_putL (pc := 83) hm8 (by decide +kernel : decode k_P_Parser_takeBars.2.1 83 = .ok (.putfield 209, 3)) lp_6_209 t7) ?_
    obtain ⟨v10, hv10, h⟩ := vb_some h
    refine ai (e_iinc (pc := 86) (k := 2) hv10 ic_1 (by decide +kernel : decode k_P_Parser_takeBars.2.1 86 = .ok (.iinc 2 (1), 3)) rfl (by decide) rfl) ?_
    refine ai (r_goto (pc := 89) (tgt := 2) (by decide +kernel : decode k_P_Parser_takeBars.2.1 89 = .ok (.goto (-87), 3)) (by decide)) ?_
    exact (ai (r_sub [1, 2, 0] rfl) (hk2 (some a6) v10 m8 _ _ hL h))
set_option maxRecDepth 100000 in
set_option maxHeartbeats 4000000 in
theorem P_Parser_takeBars_2_run {n : Nat} {x1 : Option Nat} {x2 : Int32} {m m' : Mem} {r : Int32} (hL : PL m) (h : P_Parser_takeBars_2 n x1 x2 m = some (r, m')) : Run k_P_Parser_takeBars 2 [(0, .ref 22), (1, va_rf x1), (2, .int x2)] [] m (some (.int r)) m' ∧ PL m' := by
  induction n generalizing x1 x2 m r m' with
  | zero => exact absurd h (by simp [P_Parser_takeBars_2])
  | succ n ih =>
    rw [P_Parser_takeBars_2.eq_2] at h
    refine ai (r_iload_n (pc := 2) (k := 2) (by decide +kernel : decode k_P_Parser_takeBars.2.1 2 = .ok (.iload_n 2, 1)) rfl rfl) ?_
    refine ai (r_iconst (pc := 3) (by decide +kernel : decode k_P_Parser_takeBars.2.1 3 = .ok (.iconst 4, 1)) ic_4) ?_
    rcases ite_some h with ⟨c1, h⟩ | ⟨c1, h⟩
    · refine ai (r_icmp_gt_t (pc := 4) (tgt := 92) (by decide +kernel : decode k_P_Parser_takeBars.2.1 4 = .ok (.if_icmp .gt (88), 3)) (by decide) c1) ?_
      refine ai (r_iconst (pc := 92) (by decide +kernel : decode k_P_Parser_takeBars.2.1 92 = .ok (.iconst 0, 1)) ic_0) ?_
      cases h
      exact ⟨r_zret (by decide) rfl (by decide +kernel : decode k_P_Parser_takeBars.2.1 93 = .ok (.ireturn, 1)), hL⟩
    · refine ai (r_icmp_gt_f (pc := 4) 92 (by decide +kernel : decode k_P_Parser_takeBars.2.1 4 = .ok (.if_icmp .gt (88), 3)) (by decide) c1) ?_
      refine ai (p_aload_n (pc := 7) (k := 0) (by decide +kernel : decode k_P_Parser_takeBars.2.1 7 = .ok (.aload_n 0, 1)) rfl rfl) ?_
      refine ai (p_getr (pc := 8) (PR_768_22 hL) (by decide +kernel : decode k_P_Parser_takeBars.2.1 8 = .ok (.getfield 25, 3)) lg_6_25 (PC_22 hL).1) ?_
      refine ai (p_getr (pc := 11) (PR_642_16 hL) (by decide +kernel : decode k_P_Parser_takeBars.2.1 11 = .ok (.getfield 42, 3)) lg_6_42 (PC_16 hL).1) ?_
      refine ai (p_aload_n (pc := 14) (k := 0) (by decide +kernel : decode k_P_Parser_takeBars.2.1 14 = .ok (.aload_n 0, 1)) rfl rfl) ?_
      refine ai (r_getI (pc := 15) (by decide +kernel : decode k_P_Parser_takeBars.2.1 15 = .ok (.getfield 71, 3)) lg_6_71 (by decide) (PC_22 hL).1) ?_
      obtain ⟨g2, h⟩ := gd_some h
      refine ai (p_iald (pc := 18) (by decide +kernel : decode k_P_Parser_takeBars.2.1 18 = .ok (.iaload, 1)) (PC_18 hL).1 (PC_18 hL).2 g2) ?_
      refine ai (r_bipush (pc := 19) (by decide +kernel : decode k_P_Parser_takeBars.2.1 19 = .ok (.bipush (54), 2)) (by decide : _ = (54 : Int32))) ?_
      rcases ite_some h with ⟨c3, h⟩ | ⟨c3, h⟩
      · refine ai (r_icmp_eq_t (pc := 21) (tgt := 26) (by decide +kernel : decode k_P_Parser_takeBars.2.1 21 = .ok (.if_icmp .eq (5), 3)) (by decide) c3) ?_
        refine ai (p_aload_n (pc := 26) (k := 0) (by decide +kernel : decode k_P_Parser_takeBars.2.1 26 = .ok (.aload_n 0, 1)) rfl rfl) ?_
        obtain ⟨r4, m5, hr4, h⟩ := bn_some h
        have q6 := P_Parser_take_run hL hr4
        have c7 := (PC_22 hL).1
        have hL := q6.2
        refine ai (q_callV (pc := 27) (As := []) (st := []) (st2 := [.int r4]) (b := 22) rfl rfl (by decide +kernel : decode k_P_Parser_takeBars.2.1 27 = .ok (.invokevirtual 147, 3)) lc_6_147 mo_P_Parser_take ⟨Nat.le_of_ble_eq_true rfl, Nat.le_of_ble_eq_true rfl⟩ (Nat.le_of_ble_eq_true rfl) (Nat.le_of_ble_eq_true rfl) c7 q6.1) ?_
        rcases ite_some h with ⟨c8, h⟩ | ⟨c8, h⟩
        · refine ai (r_if_ne_f (pc := 30) 35 (by decide +kernel : decode k_P_Parser_takeBars.2.1 30 = .ok (.ifCond .ne (5), 3)) (by decide) c8) ?_
          refine ai (r_iconst (pc := 33) (by decide +kernel : decode k_P_Parser_takeBars.2.1 33 = .ok (.iconst 0, 1)) ic_0) ?_
          cases h
          exact ⟨r_zret (by decide) rfl (by decide +kernel : decode k_P_Parser_takeBars.2.1 34 = .ok (.ireturn, 1)), hL⟩
        · refine ai (r_if_ne_t (pc := 30) (tgt := 35) (by decide +kernel : decode k_P_Parser_takeBars.2.1 30 = .ok (.ifCond .ne (5), 3)) (by decide) c8) ?_
          refine ai (r_iload_n (pc := 35) (k := 2) (by decide +kernel : decode k_P_Parser_takeBars.2.1 35 = .ok (.iload_n 2, 1)) rfl rfl) ?_
          refine ai (r_iconst (pc := 36) (by decide +kernel : decode k_P_Parser_takeBars.2.1 36 = .ok (.iconst 4, 1)) ic_4) ?_
          rcases ite_some h with ⟨c9, h⟩ | ⟨c9, h⟩
          · refine ai (r_icmp_ne_f (pc := 37) 62 (by decide +kernel : decode k_P_Parser_takeBars.2.1 37 = .ok (.if_icmp .ne (25), 3)) (by decide) c9) ?_
            refine ai (p_aload_n (pc := 40) (k := 0) (by decide +kernel : decode k_P_Parser_takeBars.2.1 40 = .ok (.aload_n 0, 1)) rfl rfl) ?_
            refine ai (p_getr (pc := 41) (PR_768_22 hL) (by decide +kernel : decode k_P_Parser_takeBars.2.1 41 = .ok (.getfield 25, 3)) lg_6_25 (PC_22 hL).1) ?_
            refine ai (p_getr (pc := 44) (PR_642_16 hL) (by decide +kernel : decode k_P_Parser_takeBars.2.1 44 = .ok (.getfield 42, 3)) lg_6_42 (PC_16 hL).1) ?_
            refine ai (p_aload_n (pc := 47) (k := 0) (by decide +kernel : decode k_P_Parser_takeBars.2.1 47 = .ok (.aload_n 0, 1)) rfl rfl) ?_
            refine ai (r_getI (pc := 48) (by decide +kernel : decode k_P_Parser_takeBars.2.1 48 = .ok (.getfield 71, 3)) lg_6_71 (by decide) (PC_22 hL).1) ?_
            obtain ⟨g10, h⟩ := gd_some h
            refine ai (p_iald (pc := 51) (by decide +kernel : decode k_P_Parser_takeBars.2.1 51 = .ok (.iaload, 1)) (PC_18 hL).1 (PC_18 hL).2 g10) ?_
            refine ai (r_iconst (pc := 52) (by decide +kernel : decode k_P_Parser_takeBars.2.1 52 = .ok (.iconst 2, 1)) ic_2) ?_
            rcases ite_some h with ⟨c11, h⟩ | ⟨c11, h⟩
            · refine ai (r_icmp_ne_f (pc := 53) 62 (by decide +kernel : decode k_P_Parser_takeBars.2.1 53 = .ok (.if_icmp .ne (9), 3)) (by decide) c11) ?_
              exact (ai (r_sub [0] rfl) (P_Parser_takeBars_56_run hL h))
            · refine ai (r_icmp_ne_t (pc := 53) (tgt := 62) (by decide +kernel : decode k_P_Parser_takeBars.2.1 53 = .ok (.if_icmp .ne (9), 3)) (by decide) c11) ?_
              exact (P_Parser_takeBars_62_run (fun _ _ _ _ _ q1 q3 => ih q1 q3) hL h)
          · refine ai (r_icmp_ne_t (pc := 37) (tgt := 62) (by decide +kernel : decode k_P_Parser_takeBars.2.1 37 = .ok (.if_icmp .ne (25), 3)) (by decide) c9) ?_
            exact (P_Parser_takeBars_62_run (fun _ _ _ _ _ q1 q3 => ih q1 q3) hL h)
      · refine ai (r_icmp_eq_f (pc := 21) 26 (by decide +kernel : decode k_P_Parser_takeBars.2.1 21 = .ok (.if_icmp .eq (5), 3)) (by decide) c3) ?_
        refine ai (r_iconst (pc := 24) (by decide +kernel : decode k_P_Parser_takeBars.2.1 24 = .ok (.iconst 1, 1)) ic_1) ?_
        cases h
        exact ⟨r_zret (by decide) rfl (by decide +kernel : decode k_P_Parser_takeBars.2.1 25 = .ok (.ireturn, 1)), hL⟩
set_option maxRecDepth 100000 in
set_option maxHeartbeats 4000000 in
theorem P_Parser_takeBars_run {x1 : Option Nat} {m m' : Mem} {r : Int32} (hL : PL m) (h : P_Parser_takeBars x1 m = some (r, m')) : Run k_P_Parser_takeBars 0 [(0, .ref 22), (1, va_rf x1)] [] m (some (.int r)) m' ∧ PL m' := by
  unfold P_Parser_takeBars at h
  refine ai (r_iconst (pc := 0) (by decide +kernel : decode k_P_Parser_takeBars.2.1 0 = .ok (.iconst 0, 1)) ic_0) ?_
  refine ai (e_istore_n (pc := 1) rfl (by decide +kernel : decode k_P_Parser_takeBars.2.1 1 = .ok (.istore_n 2, 1)) rfl (by decide) (by simp [f1, vrc, vrs, cti, ctr, ctl, ctn, cta]) (ls2 := [(2, .int 0), (0, .ref 22), (1, va_rf x1)])) ?_
  exact (ai (r_sub [1, 2, 0] rfl) (P_Parser_takeBars_2_run hL h))
set_option maxRecDepth 100000 in
set_option maxHeartbeats 4000000 in
theorem P_Parser_takeBody_222_run {x1 : Option Nat} {m m' : Mem} {r : Int32} (hL : PL m) (h : P_Parser_takeBody_222 x1 m = some (r, m')) : Run k_P_Parser_takeBody 222 [(0, .ref 22), (1, va_rf x1)] [] m (some (.int r)) m' ∧ PL m' := by
  unfold P_Parser_takeBody_222 at h
  refine ai (p_aload_n (pc := 222) (k := 0) (by decide +kernel : decode k_P_Parser_takeBody.2.1 222 = .ok (.aload_n 0, 1)) rfl rfl) ?_
  refine ai (r_aload_n (pc := 223) (k := 1) (by decide +kernel : decode k_P_Parser_takeBody.2.1 223 = .ok (.aload_n 1, 1)) rfl rfl) ?_
  obtain ⟨r1, m2, hr1, h⟩ := bn_some h
  have q3 := P_Parser_takeBars_run hL hr1
  have c4 := (PC_22 hL).1
  have hL := q3.2
  refine ai (q_callV (pc := 224) (As := [va_rf x1]) (st := []) (st2 := [.int r1]) (b := 22) (by simp [lv_args, vrc, vrs, cti, ctr, ctl, ctn, cta]) rfl (by decide +kernel : decode k_P_Parser_takeBody.2.1 224 = .ok (.invokevirtual 197, 3)) lc_6_197 mo_P_Parser_takeBars ⟨Nat.le_of_ble_eq_true rfl, Nat.le_of_ble_eq_true rfl⟩ (by simp [lg_sl, vrc, vrs, cti, ctr, ctl, ctn, cta, k_P_Parser_takeBars]) (Nat.le_of_ble_eq_true rfl) c4 q3.1) ?_
  rcases ite_some h with ⟨c5, h⟩ | ⟨c5, h⟩
  · refine ai (r_if_eq_t (pc := 227) (tgt := 234) (by decide +kernel : decode k_P_Parser_takeBody.2.1 227 = .ok (.ifCond .eq (7), 3)) (by decide) c5) ?_
    refine ai (r_iconst (pc := 234) (by decide +kernel : decode k_P_Parser_takeBody.2.1 234 = .ok (.iconst 0, 1)) ic_0) ?_
    cases h
    exact ⟨r_zret (by decide) rfl (by decide +kernel : decode k_P_Parser_takeBody.2.1 235 = .ok (.ireturn, 1)), hL⟩
  · refine ai (r_if_eq_f (pc := 227) 234 (by decide +kernel : decode k_P_Parser_takeBody.2.1 227 = .ok (.ifCond .eq (7), 3)) (by decide) c5) ?_
    refine ai (r_iconst (pc := 230) (by decide +kernel : decode k_P_Parser_takeBody.2.1 230 = .ok (.iconst 1, 1)) ic_1) ?_
    refine ai (r_goto (pc := 231) (tgt := 235) (by decide +kernel : decode k_P_Parser_takeBody.2.1 231 = .ok (.goto (4), 3)) (by decide)) ?_
    cases h
    exact ⟨r_zret (by decide) rfl (by decide +kernel : decode k_P_Parser_takeBody.2.1 235 = .ok (.ireturn, 1)), hL⟩
set_option maxRecDepth 100000 in
set_option maxHeartbeats 4000000 in
theorem P_Parser_takeBody_run {x1 : Option Nat} {m m' : Mem} {r : Int32} (hL : PL m) (h : P_Parser_takeBody x1 m = some (r, m')) : Run k_P_Parser_takeBody 0 [(0, .ref 22), (1, va_rf x1)] [] m (some (.int r)) m' ∧ PL m' := by
  unfold P_Parser_takeBody at h
  obtain ⟨a1, rfl, h9⟩ := gs_some h
  have h := h9
  refine ai (p_aload_n (pc := 0) (k := 1) (by decide +kernel : decode k_P_Parser_takeBody.2.1 0 = .ok (.aload_n 1, 1)) rfl rfl) ?_
  obtain ⟨t2, h⟩ := gt_some h
  refine ai (r_getI (pc := 1) (by decide +kernel : decode k_P_Parser_takeBody.2.1 1 = .ok (.getfield 96, 3)) lg_6_96 (by decide) t2) ?_
  rcases ite_some h with ⟨c3, h⟩ | ⟨c3, h⟩
  · refine ai (r_tableIn (pc := 4) (tgt := 56) (off := 52) (by decide +kernel : decode k_P_Parser_takeBody.2.1 4 = .ok (.tableswitch (264) (32) (40) #[52, 264, 138, 76, 168, 168, 119, 264, 232], 52)) (by rw [c3]; decide) (by rw [c3]; decide) (by rw [c3]; decide +kernel) (by decide)) ?_
    refine ai (p_aload_n (pc := 56) (k := 0) (by decide +kernel : decode k_P_Parser_takeBody.2.1 56 = .ok (.aload_n 0, 1)) rfl rfl) ?_
    refine ai (r_bipush (pc := 57) (by decide +kernel : decode k_P_Parser_takeBody.2.1 57 = .ok (.bipush (47), 2)) (by decide : _ = (47 : Int32))) ?_
    obtain ⟨r4, m5, hr4, h⟩ := bn_some h
    have q6 := P_Parser_takeKind_run hL hr4
    have c7 := (PC_22 hL).1
    have hL := q6.2
    refine ai (q_callV (pc := 59) (As := [.int 47]) (st := []) (st2 := [.int r4]) (b := 22) rfl rfl (by decide +kernel : decode k_P_Parser_takeBody.2.1 59 = .ok (.invokevirtual 154, 3)) lc_6_154 mo_P_Parser_takeKind ⟨Nat.le_of_ble_eq_true rfl, Nat.le_of_ble_eq_true rfl⟩ (Nat.le_of_ble_eq_true rfl) (Nat.le_of_ble_eq_true rfl) c7 q6.1) ?_
    rcases ite_some h with ⟨c8, h⟩ | ⟨c8, h⟩
    · refine ai (r_if_eq_t (pc := 62) (tgt := 78) (by decide +kernel : decode k_P_Parser_takeBody.2.1 62 = .ok (.ifCond .eq (16), 3)) (by decide) c8) ?_
      refine ai (r_iconst (pc := 78) (by decide +kernel : decode k_P_Parser_takeBody.2.1 78 = .ok (.iconst 0, 1)) ic_0) ?_
      cases h
      exact ⟨r_zret (by decide) rfl (by decide +kernel : decode k_P_Parser_takeBody.2.1 79 = .ok (.ireturn, 1)), hL⟩
    · refine ai (r_if_eq_f (pc := 62) 78 (by decide +kernel : decode k_P_Parser_takeBody.2.1 62 = .ok (.ifCond .eq (16), 3)) (by decide) c8) ?_
      refine ai (p_aload_n (pc := 65) (k := 0) (by decide +kernel : decode k_P_Parser_takeBody.2.1 65 = .ok (.aload_n 0, 1)) rfl rfl) ?_
      refine ai (p_aload_n (pc := 66) (k := 1) (by decide +kernel : decode k_P_Parser_takeBody.2.1 66 = .ok (.aload_n 1, 1)) rfl rfl) ?_
      refine ai (r_iconst (pc := 67) (by decide +kernel : decode k_P_Parser_takeBody.2.1 67 = .ok (.iconst 1, 1)) ic_1) ?_
      obtain ⟨r9, m10, hr9, h⟩ := bn_some h
      have q11 := P_Parser_takeFormula_run hL hr9
      have c12 := (PC_22 hL).1
      have hL := q11.2
      refine ai (q_callV (pc := 68) (As := [.ref a1, .int 1]) (st := []) (st2 := [.int r9]) (b := 22) rfl rfl (by decide +kernel : decode k_P_Parser_takeBody.2.1 68 = .ok (.invokevirtual 181, 3)) lc_6_181 mo_P_Parser_takeFormula ⟨Nat.le_of_ble_eq_true rfl, Nat.le_of_ble_eq_true rfl⟩ (Nat.le_of_ble_eq_true rfl) (Nat.le_of_ble_eq_true rfl) c12 q11.1) ?_
      rcases ite_some h with ⟨c13, h⟩ | ⟨c13, h⟩
      · refine ai (r_if_eq_t (pc := 71) (tgt := 78) (by decide +kernel : decode k_P_Parser_takeBody.2.1 71 = .ok (.ifCond .eq (7), 3)) (by decide) c13) ?_
        refine ai (r_iconst (pc := 78) (by decide +kernel : decode k_P_Parser_takeBody.2.1 78 = .ok (.iconst 0, 1)) ic_0) ?_
        cases h
        exact ⟨r_zret (by decide) rfl (by decide +kernel : decode k_P_Parser_takeBody.2.1 79 = .ok (.ireturn, 1)), hL⟩
      · refine ai (r_if_eq_f (pc := 71) 78 (by decide +kernel : decode k_P_Parser_takeBody.2.1 71 = .ok (.ifCond .eq (7), 3)) (by decide) c13) ?_
        refine ai (r_iconst (pc := 74) (by decide +kernel : decode k_P_Parser_takeBody.2.1 74 = .ok (.iconst 1, 1)) ic_1) ?_
        refine ai (r_goto (pc := 75) (tgt := 79) (by decide +kernel : decode k_P_Parser_takeBody.2.1 75 = .ok (.goto (4), 3)) (by decide)) ?_
        cases h
        exact ⟨r_zret (by decide) rfl (by decide +kernel : decode k_P_Parser_takeBody.2.1 79 = .ok (.ireturn, 1)), hL⟩
  · skip
    rcases ite_some h with ⟨c14, h⟩ | ⟨c14, h⟩
    · refine ai (r_tableIn (pc := 4) (tgt := 268) (off := 264) (by decide +kernel : decode k_P_Parser_takeBody.2.1 4 = .ok (.tableswitch (264) (32) (40) #[52, 264, 138, 76, 168, 168, 119, 264, 232], 52)) (by rw [c14]; decide) (by rw [c14]; decide) (by rw [c14]; decide +kernel) (by decide)) ?_
      refine ai (p_aload_n (pc := 268) (k := 0) (by decide +kernel : decode k_P_Parser_takeBody.2.1 268 = .ok (.aload_n 0, 1)) rfl rfl) ?_
      refine ai (p_aload_n (pc := 269) (k := 1) (by decide +kernel : decode k_P_Parser_takeBody.2.1 269 = .ok (.aload_n 1, 1)) rfl rfl) ?_
      obtain ⟨r15, m16, hr15, h⟩ := bn_some h
      have q17 := P_Parser_takeItemName_run hL hr15
      have c18 := (PC_22 hL).1
      have hL := q17.2
      refine ai (q_callV (pc := 270) (As := [.ref a1]) (st := []) (st2 := [.int r15]) (b := 22) rfl rfl (by decide +kernel : decode k_P_Parser_takeBody.2.1 270 = .ok (.invokevirtual 188, 3)) lc_6_188 mo_P_Parser_takeItemName ⟨Nat.le_of_ble_eq_true rfl, Nat.le_of_ble_eq_true rfl⟩ (Nat.le_of_ble_eq_true rfl) (Nat.le_of_ble_eq_true rfl) c18 q17.1) ?_
      obtain ⟨z19, h⟩ := gz_some h
      cases h
      exact ⟨r_zret z19 rfl (by decide +kernel : decode k_P_Parser_takeBody.2.1 273 = .ok (.ireturn, 1)), hL⟩
    · skip
      rcases ite_some h with ⟨c20, h⟩ | ⟨c20, h⟩
      · refine ai (r_tableIn (pc := 4) (tgt := 142) (off := 138) (by decide +kernel : decode k_P_Parser_takeBody.2.1 4 = .ok (.tableswitch (264) (32) (40) #[52, 264, 138, 76, 168, 168, 119, 264, 232], 52)) (by rw [c20]; decide) (by rw [c20]; decide) (by rw [c20]; decide +kernel) (by decide)) ?_
        refine ai (p_aload_n (pc := 142) (k := 0) (by decide +kernel : decode k_P_Parser_takeBody.2.1 142 = .ok (.aload_n 0, 1)) rfl rfl) ?_
        refine ai (p_aload_n (pc := 143) (k := 1) (by decide +kernel : decode k_P_Parser_takeBody.2.1 143 = .ok (.aload_n 1, 1)) rfl rfl) ?_
        obtain ⟨r21, m22, hr21, h⟩ := bn_some h
        have q23 := P_Parser_takeItemName_run hL hr21
        have c24 := (PC_22 hL).1
        have hL := q23.2
        refine ai (q_callV (pc := 144) (As := [.ref a1]) (st := []) (st2 := [.int r21]) (b := 22) rfl rfl (by decide +kernel : decode k_P_Parser_takeBody.2.1 144 = .ok (.invokevirtual 188, 3)) lc_6_188 mo_P_Parser_takeItemName ⟨Nat.le_of_ble_eq_true rfl, Nat.le_of_ble_eq_true rfl⟩ (Nat.le_of_ble_eq_true rfl) (Nat.le_of_ble_eq_true rfl) c24 q23.1) ?_
        rcases ite_some h with ⟨c25, h⟩ | ⟨c25, h⟩
        · refine ai (r_if_eq_t (pc := 147) (tgt := 170) (by decide +kernel : decode k_P_Parser_takeBody.2.1 147 = .ok (.ifCond .eq (23), 3)) (by decide) c25) ?_
          refine ai (r_iconst (pc := 170) (by decide +kernel : decode k_P_Parser_takeBody.2.1 170 = .ok (.iconst 0, 1)) ic_0) ?_
          cases h
          exact ⟨r_zret (by decide) rfl (by decide +kernel : decode k_P_Parser_takeBody.2.1 171 = .ok (.ireturn, 1)), hL⟩
        · refine ai (r_if_eq_f (pc := 147) 170 (by decide +kernel : decode k_P_Parser_takeBody.2.1 147 = .ok (.ifCond .eq (23), 3)) (by decide) c25) ?_
          refine ai (p_aload_n (pc := 150) (k := 0) (by decide +kernel : decode k_P_Parser_takeBody.2.1 150 = .ok (.aload_n 0, 1)) rfl rfl) ?_
          refine ai (p_aload_n (pc := 151) (k := 1) (by decide +kernel : decode k_P_Parser_takeBody.2.1 151 = .ok (.aload_n 1, 1)) rfl rfl) ?_
          obtain ⟨r26, m27, hr26, h⟩ := bn_some h
          have q28 := P_Parser_takeTasks_run hL hr26
          have c29 := (PC_22 hL).1
          have hL := q28.2
          refine ai (q_callV (pc := 152) (As := [.ref a1]) (st := []) (st2 := [.int r26]) (b := 22) rfl rfl (by decide +kernel : decode k_P_Parser_takeBody.2.1 152 = .ok (.invokevirtual 191, 3)) lc_6_191 mo_P_Parser_takeTasks ⟨Nat.le_of_ble_eq_true rfl, Nat.le_of_ble_eq_true rfl⟩ (Nat.le_of_ble_eq_true rfl) (Nat.le_of_ble_eq_true rfl) c29 q28.1) ?_
          rcases ite_some h with ⟨c30, h⟩ | ⟨c30, h⟩
          · refine ai (r_if_eq_t (pc := 155) (tgt := 170) (by decide +kernel : decode k_P_Parser_takeBody.2.1 155 = .ok (.ifCond .eq (15), 3)) (by decide) c30) ?_
            refine ai (r_iconst (pc := 170) (by decide +kernel : decode k_P_Parser_takeBody.2.1 170 = .ok (.iconst 0, 1)) ic_0) ?_
            cases h
            exact ⟨r_zret (by decide) rfl (by decide +kernel : decode k_P_Parser_takeBody.2.1 171 = .ok (.ireturn, 1)), hL⟩
          · refine ai (r_if_eq_f (pc := 155) 170 (by decide +kernel : decode k_P_Parser_takeBody.2.1 155 = .ok (.ifCond .eq (15), 3)) (by decide) c30) ?_
            refine ai (p_aload_n (pc := 158) (k := 0) (by decide +kernel : decode k_P_Parser_takeBody.2.1 158 = .ok (.aload_n 0, 1)) rfl rfl) ?_
            refine ai (p_aload_n (pc := 159) (k := 1) (by decide +kernel : decode k_P_Parser_takeBody.2.1 159 = .ok (.aload_n 1, 1)) rfl rfl) ?_
            obtain ⟨r31, m32, hr31, h⟩ := bn_some h
            have q33 := P_Parser_takeMargin_run hL hr31
            have c34 := (PC_22 hL).1
            have hL := q33.2
            refine ai (q_callV (pc := 160) (As := [.ref a1]) (st := []) (st2 := [.int r31]) (b := 22) rfl rfl (by decide +kernel : decode k_P_Parser_takeBody.2.1 160 = .ok (.invokevirtual 194, 3)) lc_6_194 mo_P_Parser_takeMargin ⟨Nat.le_of_ble_eq_true rfl, Nat.le_of_ble_eq_true rfl⟩ (Nat.le_of_ble_eq_true rfl) (Nat.le_of_ble_eq_true rfl) c34 q33.1) ?_
            rcases ite_some h with ⟨c35, h⟩ | ⟨c35, h⟩
            · refine ai (r_if_eq_t (pc := 163) (tgt := 170) (by decide +kernel : decode k_P_Parser_takeBody.2.1 163 = .ok (.ifCond .eq (7), 3)) (by decide) c35) ?_
              refine ai (r_iconst (pc := 170) (by decide +kernel : decode k_P_Parser_takeBody.2.1 170 = .ok (.iconst 0, 1)) ic_0) ?_
              cases h
              exact ⟨r_zret (by decide) rfl (by decide +kernel : decode k_P_Parser_takeBody.2.1 171 = .ok (.ireturn, 1)), hL⟩
            · refine ai (r_if_eq_f (pc := 163) 170 (by decide +kernel : decode k_P_Parser_takeBody.2.1 163 = .ok (.ifCond .eq (7), 3)) (by decide) c35) ?_
              refine ai (r_iconst (pc := 166) (by decide +kernel : decode k_P_Parser_takeBody.2.1 166 = .ok (.iconst 1, 1)) ic_1) ?_
              refine ai (r_goto (pc := 167) (tgt := 171) (by decide +kernel : decode k_P_Parser_takeBody.2.1 167 = .ok (.goto (4), 3)) (by decide)) ?_
              cases h
              exact ⟨r_zret (by decide) rfl (by decide +kernel : decode k_P_Parser_takeBody.2.1 171 = .ok (.ireturn, 1)), hL⟩
      · skip
        rcases ite_some h with ⟨c36, h⟩ | ⟨c36, h⟩
        · refine ai (r_tableIn (pc := 4) (tgt := 80) (off := 76) (by decide +kernel : decode k_P_Parser_takeBody.2.1 4 = .ok (.tableswitch (264) (32) (40) #[52, 264, 138, 76, 168, 168, 119, 264, 232], 52)) (by rw [c36]; decide) (by rw [c36]; decide) (by rw [c36]; decide +kernel) (by decide)) ?_
          refine ai (p_aload_n (pc := 80) (k := 1) (by decide +kernel : decode k_P_Parser_takeBody.2.1 80 = .ok (.aload_n 1, 1)) rfl rfl) ?_
          refine ai (p_aload_n (pc := 81) (k := 0) (by decide +kernel : decode k_P_Parser_takeBody.2.1 81 = .ok (.aload_n 0, 1)) rfl rfl) ?_
          refine ai (p_getr (pc := 82) (PR_768_22 hL) (by decide +kernel : decode k_P_Parser_takeBody.2.1 82 = .ok (.getfield 25, 3)) lg_6_25 (PC_22 hL).1) ?_
          refine ai (p_getr (pc := 85) (PR_642_16 hL) (by decide +kernel : decode k_P_Parser_takeBody.2.1 85 = .ok (.getfield 42, 3)) lg_6_42 (PC_16 hL).1) ?_
          refine ai (p_aload_n (pc := 88) (k := 0) (by decide +kernel : decode k_P_Parser_takeBody.2.1 88 = .ok (.aload_n 0, 1)) rfl rfl) ?_
          refine ai (r_getI (pc := 89) (by decide +kernel : decode k_P_Parser_takeBody.2.1 89 = .ok (.getfield 71, 3)) lg_6_71 (by decide) (PC_22 hL).1) ?_
          obtain ⟨g37, h⟩ := gd_some h
          refine ai (p_iald (pc := 92) (by decide +kernel : decode k_P_Parser_takeBody.2.1 92 = .ok (.iaload, 1)) (PC_18 hL).1 (PC_18 hL).2 g37) ?_
          obtain ⟨m38, hm38, h⟩ := vb_some h
          have hL : PL m38 := by rw [hm38]; exact hL
          have t39 : mT m38 a1 = 3 := by rw [hm38]; exact t2
          refine ai (p_putI (pc := 93) hm38 (by decide +kernel : decode k_P_Parser_takeBody.2.1 93 = .ok (.putfield 185, 3)) lp_6_185 t2) ?_
          refine ai (p_aload_n (pc := 96) (k := 1) (by decide +kernel : decode k_P_Parser_takeBody.2.1 96 = .ok (.aload_n 1, 1)) rfl rfl) ?_
          refine ai (r_getI (pc := 97) (by decide +kernel : decode k_P_Parser_takeBody.2.1 97 = .ok (.getfield 185, 3)) lg_6_185 (by decide) t39) ?_
          refine ai (r_bipush (pc := 100) (by decide +kernel : decode k_P_Parser_takeBody.2.1 100 = .ok (.bipush (51), 2)) (by decide : _ = (51 : Int32))) ?_
          refine ai (r_bipush (pc := 102) (by decide +kernel : decode k_P_Parser_takeBody.2.1 102 = .ok (.bipush (53), 2)) (by decide : _ = (53 : Int32))) ?_
          obtain ⟨r40, hr40, h⟩ := bp_some h
          refine ai (q_callSN (pc := 104) (As := [.int (mI m38 265 a1), .int 51, .int 53]) (st := []) (st2 := [.int r40]) rfl rfl (by decide +kernel : decode k_P_Parser_takeBody.2.1 104 = .ok (.invokestatic 139, 3)) lc_6_139 mo_P_within ⟨Nat.le_of_ble_eq_true rfl, Nat.le_of_ble_eq_true rfl⟩ (Nat.le_of_ble_eq_true rfl) (Nat.le_of_ble_eq_true rfl) (P_within_run hr40)) ?_
          rcases ite_some h with ⟨c41, h⟩ | ⟨c41, h⟩
          · refine ai (r_if_eq_t (pc := 107) (tgt := 117) (by decide +kernel : decode k_P_Parser_takeBody.2.1 107 = .ok (.ifCond .eq (10), 3)) (by decide) c41) ?_
            refine ai (p_aload_n (pc := 117) (k := 0) (by decide +kernel : decode k_P_Parser_takeBody.2.1 117 = .ok (.aload_n 0, 1)) rfl rfl) ?_
            refine ai (r_iconst (pc := 118) (by decide +kernel : decode k_P_Parser_takeBody.2.1 118 = .ok (.iconst 1, 1)) ic_1) ?_
            obtain ⟨r42, m43, hr42, h⟩ := bn_some h
            have q44 := P_Parser_fail_run hL hr42
            have c45 := (PC_22 hL).1
            have hL := q44.2
            refine ai (q_callV (pc := 119) (As := [.int 1]) (st := []) (st2 := [.int r42]) (b := 22) rfl rfl (by decide +kernel : decode k_P_Parser_takeBody.2.1 119 = .ok (.invokevirtual 143, 3)) lc_6_143 mo_P_Parser_fail ⟨Nat.le_of_ble_eq_true rfl, Nat.le_of_ble_eq_true rfl⟩ (Nat.le_of_ble_eq_true rfl) (Nat.le_of_ble_eq_true rfl) c45 q44.1) ?_
            obtain ⟨z46, h⟩ := gz_some h
            cases h
            exact ⟨r_zret z46 rfl (by decide +kernel : decode k_P_Parser_takeBody.2.1 122 = .ok (.ireturn, 1)), hL⟩
          · refine ai (r_if_eq_f (pc := 107) 117 (by decide +kernel : decode k_P_Parser_takeBody.2.1 107 = .ok (.ifCond .eq (10), 3)) (by decide) c41) ?_
            refine ai (p_aload_n (pc := 110) (k := 0) (by decide +kernel : decode k_P_Parser_takeBody.2.1 110 = .ok (.aload_n 0, 1)) rfl rfl) ?_
            obtain ⟨r47, m48, hr47, h⟩ := bn_some h
            have q49 := P_Parser_take_run hL hr47
            have c50 := (PC_22 hL).1
            have hL := q49.2
            refine ai (q_callV (pc := 111) (As := []) (st := []) (st2 := [.int r47]) (b := 22) rfl rfl (by decide +kernel : decode k_P_Parser_takeBody.2.1 111 = .ok (.invokevirtual 147, 3)) lc_6_147 mo_P_Parser_take ⟨Nat.le_of_ble_eq_true rfl, Nat.le_of_ble_eq_true rfl⟩ (Nat.le_of_ble_eq_true rfl) (Nat.le_of_ble_eq_true rfl) c50 q49.1) ?_
            refine ai (r_goto (pc := 114) (tgt := 122) (by decide +kernel : decode k_P_Parser_takeBody.2.1 114 = .ok (.goto (8), 3)) (by decide)) ?_
            obtain ⟨z51, h⟩ := gz_some h
            cases h
            exact ⟨r_zret z51 rfl (by decide +kernel : decode k_P_Parser_takeBody.2.1 122 = .ok (.ireturn, 1)), hL⟩
        · skip
          rcases ite_some h with ⟨c52, h⟩ | ⟨c52, h⟩
          · refine ai (r_tableIn (pc := 4) (tgt := 172) (off := 168) (by decide +kernel : decode k_P_Parser_takeBody.2.1 4 = .ok (.tableswitch (264) (32) (40) #[52, 264, 138, 76, 168, 168, 119, 264, 232], 52)) (by rw [c52]; decide) (by rw [c52]; decide) (by rw [c52]; decide +kernel) (by decide)) ?_
            refine ai (p_aload_n (pc := 172) (k := 0) (by decide +kernel : decode k_P_Parser_takeBody.2.1 172 = .ok (.aload_n 0, 1)) rfl rfl) ?_
            refine ai (p_aload_n (pc := 173) (k := 1) (by decide +kernel : decode k_P_Parser_takeBody.2.1 173 = .ok (.aload_n 1, 1)) rfl rfl) ?_
            obtain ⟨r53, m54, hr53, h⟩ := bn_some h
            have q55 := P_Parser_takeItemName_run hL hr53
            have c56 := (PC_22 hL).1
            have hL := q55.2
            refine ai (q_callV (pc := 174) (As := [.ref a1]) (st := []) (st2 := [.int r53]) (b := 22) rfl rfl (by decide +kernel : decode k_P_Parser_takeBody.2.1 174 = .ok (.invokevirtual 188, 3)) lc_6_188 mo_P_Parser_takeItemName ⟨Nat.le_of_ble_eq_true rfl, Nat.le_of_ble_eq_true rfl⟩ (Nat.le_of_ble_eq_true rfl) (Nat.le_of_ble_eq_true rfl) c56 q55.1) ?_
            rcases ite_some h with ⟨c57, h⟩ | ⟨c57, h⟩
            · refine ai (r_if_eq_t (pc := 177) (tgt := 234) (by decide +kernel : decode k_P_Parser_takeBody.2.1 177 = .ok (.ifCond .eq (57), 3)) (by decide) c57) ?_
              refine ai (r_iconst (pc := 234) (by decide +kernel : decode k_P_Parser_takeBody.2.1 234 = .ok (.iconst 0, 1)) ic_0) ?_
              cases h
              exact ⟨r_zret (by decide) rfl (by decide +kernel : decode k_P_Parser_takeBody.2.1 235 = .ok (.ireturn, 1)), hL⟩
            · refine ai (r_if_eq_f (pc := 177) 234 (by decide +kernel : decode k_P_Parser_takeBody.2.1 177 = .ok (.ifCond .eq (57), 3)) (by decide) c57) ?_
              refine ai (p_aload_n (pc := 180) (k := 0) (by decide +kernel : decode k_P_Parser_takeBody.2.1 180 = .ok (.aload_n 0, 1)) rfl rfl) ?_
              refine ai (p_aload_n (pc := 181) (k := 1) (by decide +kernel : decode k_P_Parser_takeBody.2.1 181 = .ok (.aload_n 1, 1)) rfl rfl) ?_
              refine ai (r_iconst (pc := 182) (by decide +kernel : decode k_P_Parser_takeBody.2.1 182 = .ok (.iconst 0, 1)) ic_0) ?_
              obtain ⟨r58, m59, hr58, h⟩ := bn_some h
              have q60 := P_Parser_takeFormula_run hL hr58
              have c61 := (PC_22 hL).1
              have hL := q60.2
              refine ai (q_callV (pc := 183) (As := [.ref a1, .int 0]) (st := []) (st2 := [.int r58]) (b := 22) rfl rfl (by decide +kernel : decode k_P_Parser_takeBody.2.1 183 = .ok (.invokevirtual 181, 3)) lc_6_181 mo_P_Parser_takeFormula ⟨Nat.le_of_ble_eq_true rfl, Nat.le_of_ble_eq_true rfl⟩ (Nat.le_of_ble_eq_true rfl) (Nat.le_of_ble_eq_true rfl) c61 q60.1) ?_
              rcases ite_some h with ⟨c62, h⟩ | ⟨c62, h⟩
              · refine ai (r_if_eq_t (pc := 186) (tgt := 234) (by decide +kernel : decode k_P_Parser_takeBody.2.1 186 = .ok (.ifCond .eq (48), 3)) (by decide) c62) ?_
                refine ai (r_iconst (pc := 234) (by decide +kernel : decode k_P_Parser_takeBody.2.1 234 = .ok (.iconst 0, 1)) ic_0) ?_
                cases h
                exact ⟨r_zret (by decide) rfl (by decide +kernel : decode k_P_Parser_takeBody.2.1 235 = .ok (.ireturn, 1)), hL⟩
              · refine ai (r_if_eq_f (pc := 186) 234 (by decide +kernel : decode k_P_Parser_takeBody.2.1 186 = .ok (.ifCond .eq (48), 3)) (by decide) c62) ?_
                refine ai (p_aload_n (pc := 189) (k := 0) (by decide +kernel : decode k_P_Parser_takeBody.2.1 189 = .ok (.aload_n 0, 1)) rfl rfl) ?_
                refine ai (p_getr (pc := 190) (PR_768_22 hL) (by decide +kernel : decode k_P_Parser_takeBody.2.1 190 = .ok (.getfield 25, 3)) lg_6_25 (PC_22 hL).1) ?_
                refine ai (p_getr (pc := 193) (PR_642_16 hL) (by decide +kernel : decode k_P_Parser_takeBody.2.1 193 = .ok (.getfield 42, 3)) lg_6_42 (PC_16 hL).1) ?_
                refine ai (p_aload_n (pc := 196) (k := 0) (by decide +kernel : decode k_P_Parser_takeBody.2.1 196 = .ok (.aload_n 0, 1)) rfl rfl) ?_
                refine ai (r_getI (pc := 197) (by decide +kernel : decode k_P_Parser_takeBody.2.1 197 = .ok (.getfield 71, 3)) lg_6_71 (by decide) (PC_22 hL).1) ?_
                obtain ⟨g63, h⟩ := gd_some h
                refine ai (p_iald (pc := 200) (by decide +kernel : decode k_P_Parser_takeBody.2.1 200 = .ok (.iaload, 1)) (PC_18 hL).1 (PC_18 hL).2 g63) ?_
                refine ai (r_bipush (pc := 201) (by decide +kernel : decode k_P_Parser_takeBody.2.1 201 = .ok (.bipush (47), 2)) (by decide : _ = (47 : Int32))) ?_
                rcases ite_some h with ⟨c64, h⟩ | ⟨c64, h⟩
                · refine ai (r_icmp_ne_f (pc := 203) 222 (by decide +kernel : decode k_P_Parser_takeBody.2.1 203 = .ok (.if_icmp .ne (19), 3)) (by decide) c64) ?_
                  refine ai (p_aload_n (pc := 206) (k := 0) (by decide +kernel : decode k_P_Parser_takeBody.2.1 206 = .ok (.aload_n 0, 1)) rfl rfl) ?_
                  obtain ⟨r65, m66, hr65, h⟩ := bn_some h
                  have q67 := P_Parser_take_run hL hr65
                  have c68 := (PC_22 hL).1
                  have hL := q67.2
                  refine ai (q_callV (pc := 207) (As := []) (st := []) (st2 := [.int r65]) (b := 22) rfl rfl (by decide +kernel : decode k_P_Parser_takeBody.2.1 207 = .ok (.invokevirtual 147, 3)) lc_6_147 mo_P_Parser_take ⟨Nat.le_of_ble_eq_true rfl, Nat.le_of_ble_eq_true rfl⟩ (Nat.le_of_ble_eq_true rfl) (Nat.le_of_ble_eq_true rfl) c68 q67.1) ?_
                  rcases ite_some h with ⟨c69, h⟩ | ⟨c69, h⟩
                  · refine ai (r_if_eq_t (pc := 210) (tgt := 234) (by decide +kernel : decode k_P_Parser_takeBody.2.1 210 = .ok (.ifCond .eq (24), 3)) (by decide) c69) ?_
                    refine ai (r_iconst (pc := 234) (by decide +kernel : decode k_P_Parser_takeBody.2.1 234 = .ok (.iconst 0, 1)) ic_0) ?_
                    cases h
                    exact ⟨r_zret (by decide) rfl (by decide +kernel : decode k_P_Parser_takeBody.2.1 235 = .ok (.ireturn, 1)), hL⟩
                  · refine ai (r_if_eq_f (pc := 210) 234 (by decide +kernel : decode k_P_Parser_takeBody.2.1 210 = .ok (.ifCond .eq (24), 3)) (by decide) c69) ?_
                    refine ai (p_aload_n (pc := 213) (k := 0) (by decide +kernel : decode k_P_Parser_takeBody.2.1 213 = .ok (.aload_n 0, 1)) rfl rfl) ?_
                    refine ai (p_aload_n (pc := 214) (k := 1) (by decide +kernel : decode k_P_Parser_takeBody.2.1 214 = .ok (.aload_n 1, 1)) rfl rfl) ?_
                    refine ai (r_iconst (pc := 215) (by decide +kernel : decode k_P_Parser_takeBody.2.1 215 = .ok (.iconst 1, 1)) ic_1) ?_
                    obtain ⟨r70, m71, hr70, h⟩ := bn_some h
                    have q72 := P_Parser_takeFormula_run hL hr70
                    have c73 := (PC_22 hL).1
                    have hL := q72.2
                    refine ai (q_callV (pc := 216) (As := [.ref a1, .int 1]) (st := []) (st2 := [.int r70]) (b := 22) rfl rfl (by decide +kernel : decode k_P_Parser_takeBody.2.1 216 = .ok (.invokevirtual 181, 3)) lc_6_181 mo_P_Parser_takeFormula ⟨Nat.le_of_ble_eq_true rfl, Nat.le_of_ble_eq_true rfl⟩ (Nat.le_of_ble_eq_true rfl) (Nat.le_of_ble_eq_true rfl) c73 q72.1) ?_
                    rcases ite_some h with ⟨c74, h⟩ | ⟨c74, h⟩
                    · refine ai (r_if_eq_t (pc := 219) (tgt := 234) (by decide +kernel : decode k_P_Parser_takeBody.2.1 219 = .ok (.ifCond .eq (15), 3)) (by decide) c74) ?_
                      refine ai (r_iconst (pc := 234) (by decide +kernel : decode k_P_Parser_takeBody.2.1 234 = .ok (.iconst 0, 1)) ic_0) ?_
                      cases h
                      exact ⟨r_zret (by decide) rfl (by decide +kernel : decode k_P_Parser_takeBody.2.1 235 = .ok (.ireturn, 1)), hL⟩
                    · refine ai (r_if_eq_f (pc := 219) 234 (by decide +kernel : decode k_P_Parser_takeBody.2.1 219 = .ok (.ifCond .eq (15), 3)) (by decide) c74) ?_
                      exact (P_Parser_takeBody_222_run hL h)
                · refine ai (r_icmp_ne_t (pc := 203) (tgt := 222) (by decide +kernel : decode k_P_Parser_takeBody.2.1 203 = .ok (.if_icmp .ne (19), 3)) (by decide) c64) ?_
                  exact (P_Parser_takeBody_222_run hL h)
          · skip
            rcases ite_some h with ⟨c75, h⟩ | ⟨c75, h⟩
            · refine ai (r_tableIn (pc := 4) (tgt := 172) (off := 168) (by decide +kernel : decode k_P_Parser_takeBody.2.1 4 = .ok (.tableswitch (264) (32) (40) #[52, 264, 138, 76, 168, 168, 119, 264, 232], 52)) (by rw [c75]; decide) (by rw [c75]; decide) (by rw [c75]; decide +kernel) (by decide)) ?_
              refine ai (p_aload_n (pc := 172) (k := 0) (by decide +kernel : decode k_P_Parser_takeBody.2.1 172 = .ok (.aload_n 0, 1)) rfl rfl) ?_
              refine ai (p_aload_n (pc := 173) (k := 1) (by decide +kernel : decode k_P_Parser_takeBody.2.1 173 = .ok (.aload_n 1, 1)) rfl rfl) ?_
              obtain ⟨r76, m77, hr76, h⟩ := bn_some h
              have q78 := P_Parser_takeItemName_run hL hr76
              have c79 := (PC_22 hL).1
              have hL := q78.2
              refine ai (q_callV (pc := 174) (As := [.ref a1]) (st := []) (st2 := [.int r76]) (b := 22) rfl rfl (by decide +kernel : decode k_P_Parser_takeBody.2.1 174 = .ok (.invokevirtual 188, 3)) lc_6_188 mo_P_Parser_takeItemName ⟨Nat.le_of_ble_eq_true rfl, Nat.le_of_ble_eq_true rfl⟩ (Nat.le_of_ble_eq_true rfl) (Nat.le_of_ble_eq_true rfl) c79 q78.1) ?_
              rcases ite_some h with ⟨c80, h⟩ | ⟨c80, h⟩
              · refine ai (r_if_eq_t (pc := 177) (tgt := 234) (by decide +kernel : decode k_P_Parser_takeBody.2.1 177 = .ok (.ifCond .eq (57), 3)) (by decide) c80) ?_
                refine ai (r_iconst (pc := 234) (by decide +kernel : decode k_P_Parser_takeBody.2.1 234 = .ok (.iconst 0, 1)) ic_0) ?_
                cases h
                exact ⟨r_zret (by decide) rfl (by decide +kernel : decode k_P_Parser_takeBody.2.1 235 = .ok (.ireturn, 1)), hL⟩
              · refine ai (r_if_eq_f (pc := 177) 234 (by decide +kernel : decode k_P_Parser_takeBody.2.1 177 = .ok (.ifCond .eq (57), 3)) (by decide) c80) ?_
                refine ai (p_aload_n (pc := 180) (k := 0) (by decide +kernel : decode k_P_Parser_takeBody.2.1 180 = .ok (.aload_n 0, 1)) rfl rfl) ?_
                refine ai (p_aload_n (pc := 181) (k := 1) (by decide +kernel : decode k_P_Parser_takeBody.2.1 181 = .ok (.aload_n 1, 1)) rfl rfl) ?_
                refine ai (r_iconst (pc := 182) (by decide +kernel : decode k_P_Parser_takeBody.2.1 182 = .ok (.iconst 0, 1)) ic_0) ?_
                obtain ⟨r81, m82, hr81, h⟩ := bn_some h
                have q83 := P_Parser_takeFormula_run hL hr81
                have c84 := (PC_22 hL).1
                have hL := q83.2
                refine ai (q_callV (pc := 183) (As := [.ref a1, .int 0]) (st := []) (st2 := [.int r81]) (b := 22) rfl rfl (by decide +kernel : decode k_P_Parser_takeBody.2.1 183 = .ok (.invokevirtual 181, 3)) lc_6_181 mo_P_Parser_takeFormula ⟨Nat.le_of_ble_eq_true rfl, Nat.le_of_ble_eq_true rfl⟩ (Nat.le_of_ble_eq_true rfl) (Nat.le_of_ble_eq_true rfl) c84 q83.1) ?_
                rcases ite_some h with ⟨c85, h⟩ | ⟨c85, h⟩
                · refine ai (r_if_eq_t (pc := 186) (tgt := 234) (by decide +kernel : decode k_P_Parser_takeBody.2.1 186 = .ok (.ifCond .eq (48), 3)) (by decide) c85) ?_
                  refine ai (r_iconst (pc := 234) (by decide +kernel : decode k_P_Parser_takeBody.2.1 234 = .ok (.iconst 0, 1)) ic_0) ?_
                  cases h
                  exact ⟨r_zret (by decide) rfl (by decide +kernel : decode k_P_Parser_takeBody.2.1 235 = .ok (.ireturn, 1)), hL⟩
                · refine ai (r_if_eq_f (pc := 186) 234 (by decide +kernel : decode k_P_Parser_takeBody.2.1 186 = .ok (.ifCond .eq (48), 3)) (by decide) c85) ?_
                  refine ai (p_aload_n (pc := 189) (k := 0) (by decide +kernel : decode k_P_Parser_takeBody.2.1 189 = .ok (.aload_n 0, 1)) rfl rfl) ?_
                  refine ai (p_getr (pc := 190) (PR_768_22 hL) (by decide +kernel : decode k_P_Parser_takeBody.2.1 190 = .ok (.getfield 25, 3)) lg_6_25 (PC_22 hL).1) ?_
                  refine ai (p_getr (pc := 193) (PR_642_16 hL) (by decide +kernel : decode k_P_Parser_takeBody.2.1 193 = .ok (.getfield 42, 3)) lg_6_42 (PC_16 hL).1) ?_
                  refine ai (p_aload_n (pc := 196) (k := 0) (by decide +kernel : decode k_P_Parser_takeBody.2.1 196 = .ok (.aload_n 0, 1)) rfl rfl) ?_
                  refine ai (r_getI (pc := 197) (by decide +kernel : decode k_P_Parser_takeBody.2.1 197 = .ok (.getfield 71, 3)) lg_6_71 (by decide) (PC_22 hL).1) ?_
                  obtain ⟨g86, h⟩ := gd_some h
                  refine ai (p_iald (pc := 200) (by decide +kernel : decode k_P_Parser_takeBody.2.1 200 = .ok (.iaload, 1)) (PC_18 hL).1 (PC_18 hL).2 g86) ?_
                  refine ai (r_bipush (pc := 201) (by decide +kernel : decode k_P_Parser_takeBody.2.1 201 = .ok (.bipush (47), 2)) (by decide : _ = (47 : Int32))) ?_
                  rcases ite_some h with ⟨c87, h⟩ | ⟨c87, h⟩
                  · refine ai (r_icmp_ne_f (pc := 203) 222 (by decide +kernel : decode k_P_Parser_takeBody.2.1 203 = .ok (.if_icmp .ne (19), 3)) (by decide) c87) ?_
                    refine ai (p_aload_n (pc := 206) (k := 0) (by decide +kernel : decode k_P_Parser_takeBody.2.1 206 = .ok (.aload_n 0, 1)) rfl rfl) ?_
                    obtain ⟨r88, m89, hr88, h⟩ := bn_some h
                    have q90 := P_Parser_take_run hL hr88
                    have c91 := (PC_22 hL).1
                    have hL := q90.2
                    refine ai (q_callV (pc := 207) (As := []) (st := []) (st2 := [.int r88]) (b := 22) rfl rfl (by decide +kernel : decode k_P_Parser_takeBody.2.1 207 = .ok (.invokevirtual 147, 3)) lc_6_147 mo_P_Parser_take ⟨Nat.le_of_ble_eq_true rfl, Nat.le_of_ble_eq_true rfl⟩ (Nat.le_of_ble_eq_true rfl) (Nat.le_of_ble_eq_true rfl) c91 q90.1) ?_
                    rcases ite_some h with ⟨c92, h⟩ | ⟨c92, h⟩
                    · refine ai (r_if_eq_t (pc := 210) (tgt := 234) (by decide +kernel : decode k_P_Parser_takeBody.2.1 210 = .ok (.ifCond .eq (24), 3)) (by decide) c92) ?_
                      refine ai (r_iconst (pc := 234) (by decide +kernel : decode k_P_Parser_takeBody.2.1 234 = .ok (.iconst 0, 1)) ic_0) ?_
                      cases h
                      exact ⟨r_zret (by decide) rfl (by decide +kernel : decode k_P_Parser_takeBody.2.1 235 = .ok (.ireturn, 1)), hL⟩
                    · refine ai (r_if_eq_f (pc := 210) 234 (by decide +kernel : decode k_P_Parser_takeBody.2.1 210 = .ok (.ifCond .eq (24), 3)) (by decide) c92) ?_
                      refine ai (p_aload_n (pc := 213) (k := 0) (by decide +kernel : decode k_P_Parser_takeBody.2.1 213 = .ok (.aload_n 0, 1)) rfl rfl) ?_
                      refine ai (p_aload_n (pc := 214) (k := 1) (by decide +kernel : decode k_P_Parser_takeBody.2.1 214 = .ok (.aload_n 1, 1)) rfl rfl) ?_
                      refine ai (r_iconst (pc := 215) (by decide +kernel : decode k_P_Parser_takeBody.2.1 215 = .ok (.iconst 1, 1)) ic_1) ?_
                      obtain ⟨r93, m94, hr93, h⟩ := bn_some h
                      have q95 := P_Parser_takeFormula_run hL hr93
                      have c96 := (PC_22 hL).1
                      have hL := q95.2
                      refine ai (q_callV (pc := 216) (As := [.ref a1, .int 1]) (st := []) (st2 := [.int r93]) (b := 22) rfl rfl (by decide +kernel : decode k_P_Parser_takeBody.2.1 216 = .ok (.invokevirtual 181, 3)) lc_6_181 mo_P_Parser_takeFormula ⟨Nat.le_of_ble_eq_true rfl, Nat.le_of_ble_eq_true rfl⟩ (Nat.le_of_ble_eq_true rfl) (Nat.le_of_ble_eq_true rfl) c96 q95.1) ?_
                      rcases ite_some h with ⟨c97, h⟩ | ⟨c97, h⟩
                      · refine ai (r_if_eq_t (pc := 219) (tgt := 234) (by decide +kernel : decode k_P_Parser_takeBody.2.1 219 = .ok (.ifCond .eq (15), 3)) (by decide) c97) ?_
                        refine ai (r_iconst (pc := 234) (by decide +kernel : decode k_P_Parser_takeBody.2.1 234 = .ok (.iconst 0, 1)) ic_0) ?_
                        cases h
                        exact ⟨r_zret (by decide) rfl (by decide +kernel : decode k_P_Parser_takeBody.2.1 235 = .ok (.ireturn, 1)), hL⟩
                      · refine ai (r_if_eq_f (pc := 219) 234 (by decide +kernel : decode k_P_Parser_takeBody.2.1 219 = .ok (.ifCond .eq (15), 3)) (by decide) c97) ?_
                        exact (P_Parser_takeBody_222_run hL h)
                  · refine ai (r_icmp_ne_t (pc := 203) (tgt := 222) (by decide +kernel : decode k_P_Parser_takeBody.2.1 203 = .ok (.if_icmp .ne (19), 3)) (by decide) c87) ?_
                    exact (P_Parser_takeBody_222_run hL h)
            · skip
              rcases ite_some h with ⟨c98, h⟩ | ⟨c98, h⟩
              · refine ai (r_tableIn (pc := 4) (tgt := 123) (off := 119) (by decide +kernel : decode k_P_Parser_takeBody.2.1 4 = .ok (.tableswitch (264) (32) (40) #[52, 264, 138, 76, 168, 168, 119, 264, 232], 52)) (by rw [c98]; decide) (by rw [c98]; decide) (by rw [c98]; decide +kernel) (by decide)) ?_
                refine ai (p_aload_n (pc := 123) (k := 0) (by decide +kernel : decode k_P_Parser_takeBody.2.1 123 = .ok (.aload_n 0, 1)) rfl rfl) ?_
                refine ai (r_iconst (pc := 124) (by decide +kernel : decode k_P_Parser_takeBody.2.1 124 = .ok (.iconst 1, 1)) ic_1) ?_
                refine ai (r_sipush (pc := 125) (by decide +kernel : decode k_P_Parser_takeBody.2.1 125 = .ok (.sipush (240), 3)) (by decide : _ = (240 : Int32))) ?_
                obtain ⟨r99, m100, hr99, h⟩ := bn_some h
                have q101 := P_Parser_takeInt_run hL hr99
                have c102 := (PC_22 hL).1
                have hL := q101.2
                refine ai (q_callV (pc := 128) (As := [.int 1, .int 240]) (st := []) (st2 := [.int r99]) (b := 22) rfl rfl (by decide +kernel : decode k_P_Parser_takeBody.2.1 128 = .ok (.invokevirtual 157, 3)) lc_6_157 mo_P_Parser_takeInt ⟨Nat.le_of_ble_eq_true rfl, Nat.le_of_ble_eq_true rfl⟩ (Nat.le_of_ble_eq_true rfl) (Nat.le_of_ble_eq_true rfl) c102 q101.1) ?_
                refine ai (e_istore_n (pc := 131) rfl (by decide +kernel : decode k_P_Parser_takeBody.2.1 131 = .ok (.istore_n 2, 1)) rfl (by decide) rfl) ?_
                refine ai (p_aload_n (pc := 132) (k := 2) (by decide +kernel : decode k_P_Parser_takeBody.2.1 132 = .ok (.aload_n 1, 1)) rfl rfl) ?_
                refine ai (p_aload_n (pc := 133) (k := 1) (by decide +kernel : decode k_P_Parser_takeBody.2.1 133 = .ok (.aload_n 0, 1)) rfl rfl) ?_
                refine ai (r_getI (pc := 134) (by decide +kernel : decode k_P_Parser_takeBody.2.1 134 = .ok (.getfield 161, 3)) lg_6_161 (by decide) (PC_22 hL).1) ?_
                obtain ⟨t103, h⟩ := gt_some h
                obtain ⟨m104, hm104, h⟩ := vb_some h
                have hL : PL m104 := by rw [hm104]; exact hL
                have t105 : mT m104 a1 = 3 := by rw [hm104]; exact t103
                refine ai (p_putI (pc := 137) hm104 (by decide +kernel : decode k_P_Parser_takeBody.2.1 137 = .ok (.putfield 185, 3)) lp_6_185 t103) ?_
                refine ai (r_iload_n (pc := 140) (k := 0) (by decide +kernel : decode k_P_Parser_takeBody.2.1 140 = .ok (.iload_n 2, 1)) rfl rfl) ?_
                obtain ⟨z106, h⟩ := gz_some h
                cases h
                exact ⟨r_zret z106 rfl (by decide +kernel : decode k_P_Parser_takeBody.2.1 141 = .ok (.ireturn, 1)), hL⟩
              · skip
                rcases ite_some h with ⟨c107, h⟩ | ⟨c107, h⟩
                · refine ai (r_tableIn (pc := 4) (tgt := 268) (off := 264) (by decide +kernel : decode k_P_Parser_takeBody.2.1 4 = .ok (.tableswitch (264) (32) (40) #[52, 264, 138, 76, 168, 168, 119, 264, 232], 52)) (by rw [c107]; decide) (by rw [c107]; decide) (by rw [c107]; decide +kernel) (by decide)) ?_
                  refine ai (p_aload_n (pc := 268) (k := 0) (by decide +kernel : decode k_P_Parser_takeBody.2.1 268 = .ok (.aload_n 0, 1)) rfl rfl) ?_
                  refine ai (p_aload_n (pc := 269) (k := 1) (by decide +kernel : decode k_P_Parser_takeBody.2.1 269 = .ok (.aload_n 1, 1)) rfl rfl) ?_
                  obtain ⟨r108, m109, hr108, h⟩ := bn_some h
                  have q110 := P_Parser_takeItemName_run hL hr108
                  have c111 := (PC_22 hL).1
                  have hL := q110.2
                  refine ai (q_callV (pc := 270) (As := [.ref a1]) (st := []) (st2 := [.int r108]) (b := 22) rfl rfl (by decide +kernel : decode k_P_Parser_takeBody.2.1 270 = .ok (.invokevirtual 188, 3)) lc_6_188 mo_P_Parser_takeItemName ⟨Nat.le_of_ble_eq_true rfl, Nat.le_of_ble_eq_true rfl⟩ (Nat.le_of_ble_eq_true rfl) (Nat.le_of_ble_eq_true rfl) c111 q110.1) ?_
                  obtain ⟨z112, h⟩ := gz_some h
                  cases h
                  exact ⟨r_zret z112 rfl (by decide +kernel : decode k_P_Parser_takeBody.2.1 273 = .ok (.ireturn, 1)), hL⟩
                · skip
                  rcases ite_some h with ⟨c113, h⟩ | ⟨c113, h⟩
                  · refine ai (r_tableIn (pc := 4) (tgt := 236) (off := 232) (by decide +kernel : decode k_P_Parser_takeBody.2.1 4 = .ok (.tableswitch (264) (32) (40) #[52, 264, 138, 76, 168, 168, 119, 264, 232], 52)) (by rw [c113]; decide) (by rw [c113]; decide) (by rw [c113]; decide +kernel) (by decide)) ?_
                    refine ai (p_aload_n (pc := 236) (k := 0) (by decide +kernel : decode k_P_Parser_takeBody.2.1 236 = .ok (.aload_n 0, 1)) rfl rfl) ?_
                    refine ai (p_aload_n (pc := 237) (k := 1) (by decide +kernel : decode k_P_Parser_takeBody.2.1 237 = .ok (.aload_n 1, 1)) rfl rfl) ?_
                    obtain ⟨r114, m115, hr114, h⟩ := bn_some h
                    have q116 := P_Parser_takeItemName_run hL hr114
                    have c117 := (PC_22 hL).1
                    have hL := q116.2
                    refine ai (q_callV (pc := 238) (As := [.ref a1]) (st := []) (st2 := [.int r114]) (b := 22) rfl rfl (by decide +kernel : decode k_P_Parser_takeBody.2.1 238 = .ok (.invokevirtual 188, 3)) lc_6_188 mo_P_Parser_takeItemName ⟨Nat.le_of_ble_eq_true rfl, Nat.le_of_ble_eq_true rfl⟩ (Nat.le_of_ble_eq_true rfl) (Nat.le_of_ble_eq_true rfl) c117 q116.1) ?_
                    rcases ite_some h with ⟨c118, h⟩ | ⟨c118, h⟩
                    · refine ai (r_if_eq_t (pc := 241) (tgt := 266) (by decide +kernel : decode k_P_Parser_takeBody.2.1 241 = .ok (.ifCond .eq (25), 3)) (by decide) c118) ?_
                      refine ai (r_iconst (pc := 266) (by decide +kernel : decode k_P_Parser_takeBody.2.1 266 = .ok (.iconst 0, 1)) ic_0) ?_
                      cases h
                      exact ⟨r_zret (by decide) rfl (by decide +kernel : decode k_P_Parser_takeBody.2.1 267 = .ok (.ireturn, 1)), hL⟩
                    · refine ai (r_if_eq_f (pc := 241) 266 (by decide +kernel : decode k_P_Parser_takeBody.2.1 241 = .ok (.ifCond .eq (25), 3)) (by decide) c118) ?_
                      refine ai (p_aload_n (pc := 244) (k := 0) (by decide +kernel : decode k_P_Parser_takeBody.2.1 244 = .ok (.aload_n 0, 1)) rfl rfl) ?_
                      refine ai (r_bipush (pc := 245) (by decide +kernel : decode k_P_Parser_takeBody.2.1 245 = .ok (.bipush (55), 2)) (by decide : _ = (55 : Int32))) ?_
                      obtain ⟨r119, m120, hr119, h⟩ := bn_some h
                      have q121 := P_Parser_takeKind_run hL hr119
                      have c122 := (PC_22 hL).1
                      have hL := q121.2
                      refine ai (q_callV (pc := 247) (As := [.int 55]) (st := []) (st2 := [.int r119]) (b := 22) rfl rfl (by decide +kernel : decode k_P_Parser_takeBody.2.1 247 = .ok (.invokevirtual 154, 3)) lc_6_154 mo_P_Parser_takeKind ⟨Nat.le_of_ble_eq_true rfl, Nat.le_of_ble_eq_true rfl⟩ (Nat.le_of_ble_eq_true rfl) (Nat.le_of_ble_eq_true rfl) c122 q121.1) ?_
                      rcases ite_some h with ⟨c123, h⟩ | ⟨c123, h⟩
                      · refine ai (r_if_eq_t (pc := 250) (tgt := 266) (by decide +kernel : decode k_P_Parser_takeBody.2.1 250 = .ok (.ifCond .eq (16), 3)) (by decide) c123) ?_
                        refine ai (r_iconst (pc := 266) (by decide +kernel : decode k_P_Parser_takeBody.2.1 266 = .ok (.iconst 0, 1)) ic_0) ?_
                        cases h
                        exact ⟨r_zret (by decide) rfl (by decide +kernel : decode k_P_Parser_takeBody.2.1 267 = .ok (.ireturn, 1)), hL⟩
                      · refine ai (r_if_eq_f (pc := 250) 266 (by decide +kernel : decode k_P_Parser_takeBody.2.1 250 = .ok (.ifCond .eq (16), 3)) (by decide) c123) ?_
                        refine ai (p_aload_n (pc := 253) (k := 0) (by decide +kernel : decode k_P_Parser_takeBody.2.1 253 = .ok (.aload_n 0, 1)) rfl rfl) ?_
                        refine ai (p_aload_n (pc := 254) (k := 1) (by decide +kernel : decode k_P_Parser_takeBody.2.1 254 = .ok (.aload_n 1, 1)) rfl rfl) ?_
                        refine ai (r_iconst (pc := 255) (by decide +kernel : decode k_P_Parser_takeBody.2.1 255 = .ok (.iconst 0, 1)) ic_0) ?_
                        obtain ⟨r124, m125, hr124, h⟩ := bn_some h
                        have q126 := P_Parser_takeFormula_run hL hr124
                        have c127 := (PC_22 hL).1
                        have hL := q126.2
                        refine ai (q_callV (pc := 256) (As := [.ref a1, .int 0]) (st := []) (st2 := [.int r124]) (b := 22) rfl rfl (by decide +kernel : decode k_P_Parser_takeBody.2.1 256 = .ok (.invokevirtual 181, 3)) lc_6_181 mo_P_Parser_takeFormula ⟨Nat.le_of_ble_eq_true rfl, Nat.le_of_ble_eq_true rfl⟩ (Nat.le_of_ble_eq_true rfl) (Nat.le_of_ble_eq_true rfl) c127 q126.1) ?_
                        rcases ite_some h with ⟨c128, h⟩ | ⟨c128, h⟩
                        · refine ai (r_if_eq_t (pc := 259) (tgt := 266) (by decide +kernel : decode k_P_Parser_takeBody.2.1 259 = .ok (.ifCond .eq (7), 3)) (by decide) c128) ?_
                          refine ai (r_iconst (pc := 266) (by decide +kernel : decode k_P_Parser_takeBody.2.1 266 = .ok (.iconst 0, 1)) ic_0) ?_
                          cases h
                          exact ⟨r_zret (by decide) rfl (by decide +kernel : decode k_P_Parser_takeBody.2.1 267 = .ok (.ireturn, 1)), hL⟩
                        · refine ai (r_if_eq_f (pc := 259) 266 (by decide +kernel : decode k_P_Parser_takeBody.2.1 259 = .ok (.ifCond .eq (7), 3)) (by decide) c128) ?_
                          refine ai (r_iconst (pc := 262) (by decide +kernel : decode k_P_Parser_takeBody.2.1 262 = .ok (.iconst 1, 1)) ic_1) ?_
                          refine ai (r_goto (pc := 263) (tgt := 267) (by decide +kernel : decode k_P_Parser_takeBody.2.1 263 = .ok (.goto (4), 3)) (by decide)) ?_
                          cases h
                          exact ⟨r_zret (by decide) rfl (by decide +kernel : decode k_P_Parser_takeBody.2.1 267 = .ok (.ireturn, 1)), hL⟩
                  · skip
                    have ho := tab_out (x := mI m 256 a1) 32 9 (by decide) (by decide) (fun k hk => by
                      rcases (show k = 0 ∨ k = 1 ∨ k = 2 ∨ k = 3 ∨ k = 4 ∨ k = 5 ∨ k = 6 ∨ k = 7 ∨ k = 8 by omega) with rfl | rfl | rfl | rfl | rfl | rfl | rfl | rfl | rfl
                      · exact fun z => c3 (z.trans (by decide))
                      · exact fun z => c14 (z.trans (by decide))
                      · exact fun z => c20 (z.trans (by decide))
                      · exact fun z => c36 (z.trans (by decide))
                      · exact fun z => c52 (z.trans (by decide))
                      · exact fun z => c75 (z.trans (by decide))
                      · exact fun z => c98 (z.trans (by decide))
                      · exact fun z => c107 (z.trans (by decide))
                      · exact fun z => c113 (z.trans (by decide)))
                    refine ai (r_tableOut (pc := 4) (tgt := 268) (by decide +kernel : decode k_P_Parser_takeBody.2.1 4 = .ok (.tableswitch (264) (32) (40) #[52, 264, 138, 76, 168, 168, 119, 264, 232], 52)) (by simpa using ho) (by decide)) ?_
                    refine ai (p_aload_n (pc := 268) (k := 0) (by decide +kernel : decode k_P_Parser_takeBody.2.1 268 = .ok (.aload_n 0, 1)) rfl rfl) ?_
                    refine ai (p_aload_n (pc := 269) (k := 1) (by decide +kernel : decode k_P_Parser_takeBody.2.1 269 = .ok (.aload_n 1, 1)) rfl rfl) ?_
                    obtain ⟨r129, m130, hr129, h⟩ := bn_some h
                    have q131 := P_Parser_takeItemName_run hL hr129
                    have c132 := (PC_22 hL).1
                    have hL := q131.2
                    refine ai (q_callV (pc := 270) (As := [.ref a1]) (st := []) (st2 := [.int r129]) (b := 22) rfl rfl (by decide +kernel : decode k_P_Parser_takeBody.2.1 270 = .ok (.invokevirtual 188, 3)) lc_6_188 mo_P_Parser_takeItemName ⟨Nat.le_of_ble_eq_true rfl, Nat.le_of_ble_eq_true rfl⟩ (Nat.le_of_ble_eq_true rfl) (Nat.le_of_ble_eq_true rfl) c132 q131.1) ?_
                    obtain ⟨z133, h⟩ := gz_some h
                    cases h
                    exact ⟨r_zret z133 rfl (by decide +kernel : decode k_P_Parser_takeBody.2.1 273 = .ok (.ireturn, 1)), hL⟩
set_option maxRecDepth 100000 in
set_option maxHeartbeats 4000000 in
theorem P_Parser_takeItems_47_run {m m' : Mem} {r : Int32} (hL : PL m) (h : P_Parser_takeItems_47 m = some (r, m')) : Run k_P_Parser_takeItems 47 [(0, .ref 22)] [] m (some (.int r)) m' ∧ PL m' := by
  unfold P_Parser_takeItems_47 at h
  refine ai (p_aload_n (pc := 47) (k := 0) (by decide +kernel : decode k_P_Parser_takeItems.2.1 47 = .ok (.aload_n 0, 1)) rfl rfl) ?_
  refine ai (r_iconst (pc := 48) (by decide +kernel : decode k_P_Parser_takeItems.2.1 48 = .ok (.iconst 1, 1)) ic_1) ?_
  obtain ⟨r1, m2, hr1, h⟩ := bn_some h
  have q3 := P_Parser_fail_run hL hr1
  have c4 := (PC_22 hL).1
  have hL := q3.2
  refine ai (q_callV (pc := 49) (As := [.int 1]) (st := []) (st2 := [.int r1]) (b := 22) rfl rfl (by decide +kernel : decode k_P_Parser_takeItems.2.1 49 = .ok (.invokevirtual 143, 3)) lc_6_143 mo_P_Parser_fail ⟨Nat.le_of_ble_eq_true rfl, Nat.le_of_ble_eq_true rfl⟩ (Nat.le_of_ble_eq_true rfl) (Nat.le_of_ble_eq_true rfl) c4 q3.1) ?_
  obtain ⟨z5, h⟩ := gz_some h
  cases h
  exact ⟨r_zret z5 rfl (by decide +kernel : decode k_P_Parser_takeItems.2.1 52 = .ok (.ireturn, 1)), hL⟩
set_option maxRecDepth 100000 in
set_option maxHeartbeats 4000000 in
theorem P_Parser_takeItems_59_run {m m' : Mem} {r : Int32} (hL : PL m) (h : P_Parser_takeItems_59 m = some (r, m')) : Run k_P_Parser_takeItems 59 [(0, .ref 22)] [] m (some (.int r)) m' ∧ PL m' := by
  unfold P_Parser_takeItems_59 at h
  refine ai (p_aload_n (pc := 59) (k := 0) (by decide +kernel : decode k_P_Parser_takeItems.2.1 59 = .ok (.aload_n 0, 1)) rfl rfl) ?_
  refine ai (r_iconst (pc := 60) (by decide +kernel : decode k_P_Parser_takeItems.2.1 60 = .ok (.iconst 2, 1)) ic_2) ?_
  obtain ⟨r1, m2, hr1, h⟩ := bn_some h
  have q3 := P_Parser_fail_run hL hr1
  have c4 := (PC_22 hL).1
  have hL := q3.2
  refine ai (q_callV (pc := 61) (As := [.int 2]) (st := []) (st2 := [.int r1]) (b := 22) rfl rfl (by decide +kernel : decode k_P_Parser_takeItems.2.1 61 = .ok (.invokevirtual 143, 3)) lc_6_143 mo_P_Parser_fail ⟨Nat.le_of_ble_eq_true rfl, Nat.le_of_ble_eq_true rfl⟩ (Nat.le_of_ble_eq_true rfl) (Nat.le_of_ble_eq_true rfl) c4 q3.1) ?_
  obtain ⟨z5, h⟩ := gz_some h
  cases h
  exact ⟨r_zret z5 rfl (by decide +kernel : decode k_P_Parser_takeItems.2.1 64 = .ok (.ireturn, 1)), hL⟩
set_option maxRecDepth 100000 in
set_option maxHeartbeats 4000000 in
theorem P_Parser_takeItems_125_run {k2 : Int32 → Mem → Option (Int32 × Mem)} {x1 : Int32} {m m' : Mem} {r : Int32} (hk2 : ∀ (x1 : Int32) (m : Mem) (r : Int32) (m' : Mem), PL m → k2 x1 m = some (r, m') → Run k_P_Parser_takeItems 2 [(0, .ref 22), (1, .int x1)] [] m (some (.int r)) m' ∧ PL m') (hL : PL m) (h : P_Parser_takeItems_125 k2 x1 m = some (r, m')) : Run k_P_Parser_takeItems 125 [(0, .ref 22), (1, .int x1)] [] m (some (.int r)) m' ∧ PL m' := by
  unfold P_Parser_takeItems_125 at h
  refine ai (p_aload_n (pc := 125) (k := 0) (by decide +kernel : decode k_P_Parser_takeItems.2.1 125 = .ok (.aload_n 0, 1)) rfl rfl) ?_
  obtain ⟨r1, m2, hr1, h⟩ := bn_some h
  have q3 := P_Parser_take_run hL hr1
  have c4 := (PC_22 hL).1
  have hL := q3.2
  refine ai (q_callV (pc := 126) (As := []) (st := []) (st2 := [.int r1]) (b := 22) rfl rfl (by decide +kernel : decode k_P_Parser_takeItems.2.1 126 = .ok (.invokevirtual 147, 3)) lc_6_147 mo_P_Parser_take ⟨Nat.le_of_ble_eq_true rfl, Nat.le_of_ble_eq_true rfl⟩ (Nat.le_of_ble_eq_true rfl) (Nat.le_of_ble_eq_true rfl) c4 q3.1) ?_
  rcases ite_some h with ⟨c5, h⟩ | ⟨c5, h⟩
  · refine ai (r_if_eq_t (pc := 129) (tgt := 153) (by decide +kernel : decode k_P_Parser_takeItems.2.1 129 = .ok (.ifCond .eq (24), 3)) (by decide) c5) ?_
    refine ai (r_iconst (pc := 153) (by decide +kernel : decode k_P_Parser_takeItems.2.1 153 = .ok (.iconst 0, 1)) ic_0) ?_
    cases h
    exact ⟨r_zret (by decide) rfl (by decide +kernel : decode k_P_Parser_takeItems.2.1 154 = .ok (.ireturn, 1)), hL⟩
  · refine ai (r_if_eq_f (pc := 129) 153 (by decide +kernel : decode k_P_Parser_takeItems.2.1 129 = .ok (.ifCond .eq (24), 3)) (by decide) c5) ?_
    refine ai (p_aload_n (pc := 132) (k := 0) (by decide +kernel : decode k_P_Parser_takeItems.2.1 132 = .ok (.aload_n 0, 1)) rfl rfl) ?_
    refine ai (p_aload_n (pc := 133) (k := 0) (by decide +kernel : decode k_P_Parser_takeItems.2.1 133 = .ok (.aload_n 0, 1)) rfl rfl) ?_
    refine ai (p_getr (pc := 134) (PR_781_22 hL) (by decide +kernel : decode k_P_Parser_takeItems.2.1 134 = .ok (.getfield 21, 3)) lg_6_21 (PC_22 hL).1) ?_
    refine ai (r_iload_n (pc := 137) (k := 1) (by decide +kernel : decode k_P_Parser_takeItems.2.1 137 = .ok (.iload_n 1, 1)) rfl rfl) ?_
    obtain ⟨g6, h⟩ := gd_some h
    refine ai (p_aald (pc := 138) (j := 0) (by decide) (by decide +kernel : decode k_P_Parser_takeItems.2.1 138 = .ok (.aaload, 1)) (PC_24 hL).1 (PC_24 hL).2 g6) ?_
    obtain ⟨r7, m8, hr7, h⟩ := bn_some h
    have q9 := P_Parser_takeBody_run hL hr7
    have c10 := (PC_22 hL).1
    have hL := q9.2
    refine ai (q_callV (pc := 139) (As := [va_rf (aR m2 24 (ix x1))]) (st := []) (st2 := [.int r7]) (b := 22) (by simp [lv_args, vrc, vrs, cti, ctr, ctl, ctn, cta]) rfl (by decide +kernel : decode k_P_Parser_takeItems.2.1 139 = .ok (.invokevirtual 177, 3)) lc_6_177 mo_P_Parser_takeBody ⟨Nat.le_of_ble_eq_true rfl, Nat.le_of_ble_eq_true rfl⟩ (by simp [lg_sl, vrc, vrs, cti, ctr, ctl, ctn, cta, k_P_Parser_takeBody]) (Nat.le_of_ble_eq_true rfl) c10 q9.1) ?_
    rcases ite_some h with ⟨c11, h⟩ | ⟨c11, h⟩
    · refine ai (r_if_eq_t (pc := 142) (tgt := 153) (by decide +kernel : decode k_P_Parser_takeItems.2.1 142 = .ok (.ifCond .eq (11), 3)) (by decide) c11) ?_
      refine ai (r_iconst (pc := 153) (by decide +kernel : decode k_P_Parser_takeItems.2.1 153 = .ok (.iconst 0, 1)) ic_0) ?_
      cases h
      exact ⟨r_zret (by decide) rfl (by decide +kernel : decode k_P_Parser_takeItems.2.1 154 = .ok (.ireturn, 1)), hL⟩
    · refine ai (r_if_eq_f (pc := 142) 153 (by decide +kernel : decode k_P_Parser_takeItems.2.1 142 = .ok (.ifCond .eq (11), 3)) (by decide) c11) ?_
      refine ai (p_aload_n (pc := 145) (k := 0) (by decide +kernel : decode k_P_Parser_takeItems.2.1 145 = .ok (.aload_n 0, 1)) rfl rfl) ?_
      refine ai (r_iconst (pc := 146) (by decide +kernel : decode k_P_Parser_takeItems.2.1 146 = .ok (.iconst 4, 1)) ic_4) ?_
      obtain ⟨r12, m13, hr12, h⟩ := bn_some h
      have q14 := P_Parser_takeKind_run hL hr12
      have c15 := (PC_22 hL).1
      have hL := q14.2
      refine ai (q_callV (pc := 147) (As := [.int 4]) (st := []) (st2 := [.int r12]) (b := 22) rfl rfl (by decide +kernel : decode k_P_Parser_takeItems.2.1 147 = .ok (.invokevirtual 154, 3)) lc_6_154 mo_P_Parser_takeKind ⟨Nat.le_of_ble_eq_true rfl, Nat.le_of_ble_eq_true rfl⟩ (Nat.le_of_ble_eq_true rfl) (Nat.le_of_ble_eq_true rfl) c15 q14.1) ?_
      rcases ite_some h with ⟨c16, h⟩ | ⟨c16, h⟩
      · refine ai (r_if_ne_f (pc := 150) 155 (by decide +kernel : decode k_P_Parser_takeItems.2.1 150 = .ok (.ifCond .ne (5), 3)) (by decide) c16) ?_
        refine ai (r_iconst (pc := 153) (by decide +kernel : decode k_P_Parser_takeItems.2.1 153 = .ok (.iconst 0, 1)) ic_0) ?_
        cases h
        exact ⟨r_zret (by decide) rfl (by decide +kernel : decode k_P_Parser_takeItems.2.1 154 = .ok (.ireturn, 1)), hL⟩
      · refine ai (r_if_ne_t (pc := 150) (tgt := 155) (by decide +kernel : decode k_P_Parser_takeItems.2.1 150 = .ok (.ifCond .ne (5), 3)) (by decide) c16) ?_
        obtain ⟨v17, hv17, h⟩ := vb_some h
        refine ai (e_iinc (pc := 155) (k := 1) hv17 ic_1 (by decide +kernel : decode k_P_Parser_takeItems.2.1 155 = .ok (.iinc 1 (1), 3)) rfl (by decide) rfl) ?_
        refine ai (r_goto (pc := 158) (tgt := 2) (by decide +kernel : decode k_P_Parser_takeItems.2.1 158 = .ok (.goto (-156), 3)) (by decide)) ?_
        exact (ai (r_sub [1, 0] rfl) (hk2 v17 m13 _ _ hL h))
set_option maxRecDepth 100000 in
set_option maxHeartbeats 4000000 in
theorem P_Parser_takeItems_2_run {n : Nat} {x1 : Int32} {m m' : Mem} {r : Int32} (hL : PL m) (h : P_Parser_takeItems_2 n x1 m = some (r, m')) : Run k_P_Parser_takeItems 2 [(0, .ref 22), (1, .int x1)] [] m (some (.int r)) m' ∧ PL m' := by
  induction n generalizing x1 m r m' with
  | zero => exact absurd h (by simp [P_Parser_takeItems_2])
  | succ n ih =>
    rw [P_Parser_takeItems_2.eq_2] at h
    refine ai (r_iload_n (pc := 2) (k := 1) (by decide +kernel : decode k_P_Parser_takeItems.2.1 2 = .ok (.iload_n 1, 1)) rfl rfl) ?_
    refine ai (r_bipush (pc := 3) (by decide +kernel : decode k_P_Parser_takeItems.2.1 3 = .ok (.bipush (30), 2)) (by decide : _ = (30 : Int32))) ?_
    rcases ite_some h with ⟨c1, h⟩ | ⟨c1, h⟩
    · refine ai (r_icmp_gt_t (pc := 5) (tgt := 161) (by decide +kernel : decode k_P_Parser_takeItems.2.1 5 = .ok (.if_icmp .gt (156), 3)) (by decide) c1) ?_
      refine ai (r_iconst (pc := 161) (by decide +kernel : decode k_P_Parser_takeItems.2.1 161 = .ok (.iconst 0, 1)) ic_0) ?_
      cases h
      exact ⟨r_zret (by decide) rfl (by decide +kernel : decode k_P_Parser_takeItems.2.1 162 = .ok (.ireturn, 1)), hL⟩
    · refine ai (r_icmp_gt_f (pc := 5) 161 (by decide +kernel : decode k_P_Parser_takeItems.2.1 5 = .ok (.if_icmp .gt (156), 3)) (by decide) c1) ?_
      refine ai (p_aload_n (pc := 8) (k := 0) (by decide +kernel : decode k_P_Parser_takeItems.2.1 8 = .ok (.aload_n 0, 1)) rfl rfl) ?_
      refine ai (p_getr (pc := 9) (PR_768_22 hL) (by decide +kernel : decode k_P_Parser_takeItems.2.1 9 = .ok (.getfield 25, 3)) lg_6_25 (PC_22 hL).1) ?_
      refine ai (p_getr (pc := 12) (PR_642_16 hL) (by decide +kernel : decode k_P_Parser_takeItems.2.1 12 = .ok (.getfield 42, 3)) lg_6_42 (PC_16 hL).1) ?_
      refine ai (p_aload_n (pc := 15) (k := 0) (by decide +kernel : decode k_P_Parser_takeItems.2.1 15 = .ok (.aload_n 0, 1)) rfl rfl) ?_
      refine ai (r_getI (pc := 16) (by decide +kernel : decode k_P_Parser_takeItems.2.1 16 = .ok (.getfield 71, 3)) lg_6_71 (by decide) (PC_22 hL).1) ?_
      obtain ⟨g2, h⟩ := gd_some h
      refine ai (p_iald (pc := 19) (by decide +kernel : decode k_P_Parser_takeItems.2.1 19 = .ok (.iaload, 1)) (PC_18 hL).1 (PC_18 hL).2 g2) ?_
      rcases ite_some h with ⟨c3, h⟩ | ⟨c3, h⟩
      · refine ai (r_if_ne_f (pc := 20) 25 (by decide +kernel : decode k_P_Parser_takeItems.2.1 20 = .ok (.ifCond .ne (5), 3)) (by decide) c3) ?_
        refine ai (r_iconst (pc := 23) (by decide +kernel : decode k_P_Parser_takeItems.2.1 23 = .ok (.iconst 1, 1)) ic_1) ?_
        cases h
        exact ⟨r_zret (by decide) rfl (by decide +kernel : decode k_P_Parser_takeItems.2.1 24 = .ok (.ireturn, 1)), hL⟩
      · refine ai (r_if_ne_t (pc := 20) (tgt := 25) (by decide +kernel : decode k_P_Parser_takeItems.2.1 20 = .ok (.ifCond .ne (5), 3)) (by decide) c3) ?_
        refine ai (p_aload_n (pc := 25) (k := 0) (by decide +kernel : decode k_P_Parser_takeItems.2.1 25 = .ok (.aload_n 0, 1)) rfl rfl) ?_
        refine ai (p_getr (pc := 26) (PR_768_22 hL) (by decide +kernel : decode k_P_Parser_takeItems.2.1 26 = .ok (.getfield 25, 3)) lg_6_25 (PC_22 hL).1) ?_
        refine ai (p_getr (pc := 29) (PR_642_16 hL) (by decide +kernel : decode k_P_Parser_takeItems.2.1 29 = .ok (.getfield 42, 3)) lg_6_42 (PC_16 hL).1) ?_
        refine ai (p_aload_n (pc := 32) (k := 0) (by decide +kernel : decode k_P_Parser_takeItems.2.1 32 = .ok (.aload_n 0, 1)) rfl rfl) ?_
        refine ai (r_getI (pc := 33) (by decide +kernel : decode k_P_Parser_takeItems.2.1 33 = .ok (.getfield 71, 3)) lg_6_71 (by decide) (PC_22 hL).1) ?_
        obtain ⟨g4, h⟩ := gd_some h
        refine ai (p_iald (pc := 36) (by decide +kernel : decode k_P_Parser_takeItems.2.1 36 = .ok (.iaload, 1)) (PC_18 hL).1 (PC_18 hL).2 g4) ?_
        refine ai (r_bipush (pc := 37) (by decide +kernel : decode k_P_Parser_takeItems.2.1 37 = .ok (.bipush (32), 2)) (by decide : _ = (32 : Int32))) ?_
        refine ai (r_bipush (pc := 39) (by decide +kernel : decode k_P_Parser_takeItems.2.1 39 = .ok (.bipush (40), 2)) (by decide : _ = (40 : Int32))) ?_
        obtain ⟨r5, hr5, h⟩ := bp_some h
        refine ai (q_callSN (pc := 41) (As := [.int (aI m 18 (ix (mI m 779 22))), .int 32, .int 40]) (st := []) (st2 := [.int r5]) rfl rfl (by decide +kernel : decode k_P_Parser_takeItems.2.1 41 = .ok (.invokestatic 139, 3)) lc_6_139 mo_P_within ⟨Nat.le_of_ble_eq_true rfl, Nat.le_of_ble_eq_true rfl⟩ (Nat.le_of_ble_eq_true rfl) (Nat.le_of_ble_eq_true rfl) (P_within_run hr5)) ?_
        rcases ite_some h with ⟨c6, h⟩ | ⟨c6, h⟩
        · refine ai (r_if_ne_f (pc := 44) 53 (by decide +kernel : decode k_P_Parser_takeItems.2.1 44 = .ok (.ifCond .ne (9), 3)) (by decide) c6) ?_
          exact (ai (r_sub [0] rfl) (P_Parser_takeItems_47_run hL h))
        · refine ai (r_if_ne_t (pc := 44) (tgt := 53) (by decide +kernel : decode k_P_Parser_takeItems.2.1 44 = .ok (.ifCond .ne (9), 3)) (by decide) c6) ?_
          refine ai (r_iload_n (pc := 53) (k := 1) (by decide +kernel : decode k_P_Parser_takeItems.2.1 53 = .ok (.iload_n 1, 1)) rfl rfl) ?_
          refine ai (r_bipush (pc := 54) (by decide +kernel : decode k_P_Parser_takeItems.2.1 54 = .ok (.bipush (30), 2)) (by decide : _ = (30 : Int32))) ?_
          rcases ite_some h with ⟨c7, h⟩ | ⟨c7, h⟩
          · refine ai (r_icmp_ne_f (pc := 56) 65 (by decide +kernel : decode k_P_Parser_takeItems.2.1 56 = .ok (.if_icmp .ne (9), 3)) (by decide) c7) ?_
            exact (ai (r_sub [0] rfl) (P_Parser_takeItems_59_run hL h))
          · refine ai (r_icmp_ne_t (pc := 56) (tgt := 65) (by decide +kernel : decode k_P_Parser_takeItems.2.1 56 = .ok (.if_icmp .ne (9), 3)) (by decide) c7) ?_
            refine ai (p_aload_n (pc := 65) (k := 0) (by decide +kernel : decode k_P_Parser_takeItems.2.1 65 = .ok (.aload_n 0, 1)) rfl rfl) ?_
            refine ai (p_getr (pc := 66) (PR_781_22 hL) (by decide +kernel : decode k_P_Parser_takeItems.2.1 66 = .ok (.getfield 21, 3)) lg_6_21 (PC_22 hL).1) ?_
            refine ai (r_iload_n (pc := 69) (k := 1) (by decide +kernel : decode k_P_Parser_takeItems.2.1 69 = .ok (.iload_n 1, 1)) rfl rfl) ?_
            obtain ⟨m8, hm8, h⟩ := vb_some h
            have hL : PL m8 := by rw [hm8]; exact PL.nw hL
            refine ai (p_new (pc := 70) hm8 (by decide +kernel : decode k_P_Parser_takeItems.2.1 70 = .ok (.new 19, 3)) ln_6_19) ?_
            have t9 : mT m8 (mC m) = 3 := by rw [hm8]; exact up1_eq
            refine ai (r_dup (pc := 73) (by decide +kernel : decode k_P_Parser_takeItems.2.1 73 = .ok (.dup, 1)) (rfl)) ?_
            refine ai (p_aload_n (pc := 74) (k := 0) (by decide +kernel : decode k_P_Parser_takeItems.2.1 74 = .ok (.aload_n 0, 1)) rfl rfl) ?_
            refine ai (p_getr (pc := 75) (PR_768_22 hL) (by decide +kernel : decode k_P_Parser_takeItems.2.1 75 = .ok (.getfield 25, 3)) lg_6_25 (PC_22 hL).1) ?_
            refine ai (p_getr (pc := 78) (PR_642_16 hL) (by decide +kernel : decode k_P_Parser_takeItems.2.1 78 = .ok (.getfield 42, 3)) lg_6_42 (PC_16 hL).1) ?_
            refine ai (p_aload_n (pc := 81) (k := 0) (by decide +kernel : decode k_P_Parser_takeItems.2.1 81 = .ok (.aload_n 0, 1)) rfl rfl) ?_
            refine ai (r_getI (pc := 82) (by decide +kernel : decode k_P_Parser_takeItems.2.1 82 = .ok (.getfield 71, 3)) lg_6_71 (by decide) (PC_22 hL).1) ?_
            obtain ⟨g10, h⟩ := gd_some h
            refine ai (p_iald (pc := 85) (by decide +kernel : decode k_P_Parser_takeItems.2.1 85 = .ok (.iaload, 1)) (PC_18 hL).1 (PC_18 hL).2 g10) ?_
            refine ai (p_aload_n (pc := 86) (k := 0) (by decide +kernel : decode k_P_Parser_takeItems.2.1 86 = .ok (.aload_n 0, 1)) rfl rfl) ?_
            refine ai (p_getr (pc := 87) (PR_769_22 hL) (by decide +kernel : decode k_P_Parser_takeItems.2.1 87 = .ok (.getfield 29, 3)) lg_6_29 (PC_22 hL).1) ?_
            refine ai (r_getI (pc := 90) (by decide +kernel : decode k_P_Parser_takeItems.2.1 90 = .ok (.getfield 108, 3)) lg_6_108 (by decide) (PC_13 hL).1) ?_
            obtain ⟨r11, m12, hr11, h⟩ := bn_some h
            have q13 := P_Item_init_run hL t9 hr11
            have hL := q13.2
            refine ai (q_callI (pc := 93) (As := [.int (aI m8 18 (ix (mI m8 779 22))), .int (mI m8 514 13)]) (st := [.ref (mC m), .int x1, .ref 24]) (st2 := [.ref (mC m), .int x1, .ref 24]) (b := mC m) rfl rfl (by decide +kernel : decode k_P_Parser_takeItems.2.1 93 = .ok (.invokespecial 171, 3)) lc_6_171 mo_P_Item_init ⟨Nat.le_of_ble_eq_true rfl, Nat.le_of_ble_eq_true rfl⟩ (Nat.le_of_ble_eq_true rfl) (Nat.le_of_ble_eq_true rfl) q13.1) ?_
            obtain ⟨g14, h⟩ := gd_some h
            obtain ⟨t15, h⟩ := gt_some h
            have c16 := (PC_24 hL).1
            have c17 := (PC_24 hL).2
            obtain ⟨m18, hm18, h⟩ := vb_some h
            have hL : PL m18 := by rw [hm18]; exact hL
            have t19 : mT m18 (mC m) = 3 := by rw [hm18]; exact t15
            refine ai (p_aastr (pc := 96) (j := 0) (by decide) hm18 (by decide +kernel : decode k_P_Parser_takeItems.2.1 96 = .ok (.aastore, 1)) c16 c17 g14 t15) ?_
            refine ai (p_aload_n (pc := 97) (k := 0) (by decide +kernel : decode k_P_Parser_takeItems.2.1 97 = .ok (.aload_n 0, 1)) rfl rfl) ?_
            refine ai (r_iload_n (pc := 98) (k := 1) (by decide +kernel : decode k_P_Parser_takeItems.2.1 98 = .ok (.iload_n 1, 1)) rfl rfl) ?_
            refine ai (r_iconst (pc := 99) (by decide +kernel : decode k_P_Parser_takeItems.2.1 99 = .ok (.iconst 1, 1)) ic_1) ?_
            refine ai (r_iadd (pc := 100) (by decide +kernel : decode k_P_Parser_takeItems.2.1 100 = .ok (.iadd, 1))) ?_
            have c20 := (PC_22 hL).1
            obtain ⟨m21, hm21, h⟩ := vb_some h
            have hL : PL m21 := by rw [hm21]; exact hL
            have t22 : mT m21 (mC m) = 3 := by rw [hm21]; exact t19
            refine ai (p_putI (pc := 101) hm21 (by decide +kernel : decode k_P_Parser_takeItems.2.1 101 = .ok (.putfield 74, 3)) lp_6_74 c20) ?_
            refine ai (p_aload_n (pc := 104) (k := 0) (by decide +kernel : decode k_P_Parser_takeItems.2.1 104 = .ok (.aload_n 0, 1)) rfl rfl) ?_
            refine ai (p_aload_n (pc := 105) (k := 0) (by decide +kernel : decode k_P_Parser_takeItems.2.1 105 = .ok (.aload_n 0, 1)) rfl rfl) ?_
            refine ai (p_getr (pc := 106) (PR_781_22 hL) (by decide +kernel : decode k_P_Parser_takeItems.2.1 106 = .ok (.getfield 21, 3)) lg_6_21 (PC_22 hL).1) ?_
            refine ai (r_iload_n (pc := 109) (k := 1) (by decide +kernel : decode k_P_Parser_takeItems.2.1 109 = .ok (.iload_n 1, 1)) rfl rfl) ?_
            obtain ⟨g23, h⟩ := gd_some h
            obtain ⟨a24, o25, h⟩ := gs_some h
            refine ai (p_aaldr (pc := 110) (j := 0) (by decide) o25 (by decide +kernel : decode k_P_Parser_takeItems.2.1 110 = .ok (.aaload, 1)) (PC_24 hL).1 (PC_24 hL).2 g23) ?_
            obtain ⟨t26, h⟩ := gt_some h
            refine ai (r_getI (pc := 111) (by decide +kernel : decode k_P_Parser_takeItems.2.1 111 = .ok (.getfield 96, 3)) lg_6_96 (by decide) t26) ?_
            obtain ⟨r27, m28, hr27, h⟩ := bn_some h
            have q29 := P_Parser_isMisplaced_run hL hr27
            have c30 := (PC_22 hL).1
            have hL := q29.2
            refine ai (q_callV (pc := 114) (As := [.int (mI m21 256 a24)]) (st := []) (st2 := [.int r27]) (b := 22) rfl rfl (by decide +kernel : decode k_P_Parser_takeItems.2.1 114 = .ok (.invokevirtual 174, 3)) lc_6_174 mo_P_Parser_isMisplaced ⟨Nat.le_of_ble_eq_true rfl, Nat.le_of_ble_eq_true rfl⟩ (Nat.le_of_ble_eq_true rfl) (Nat.le_of_ble_eq_true rfl) c30 q29.1) ?_
            rcases ite_some h with ⟨c31, h⟩ | ⟨c31, h⟩
            · refine ai (r_if_eq_t (pc := 117) (tgt := 125) (by decide +kernel : decode k_P_Parser_takeItems.2.1 117 = .ok (.ifCond .eq (8), 3)) (by decide) c31) ?_
              exact (P_Parser_takeItems_125_run (fun _ _ _ _ q1 q3 => ih q1 q3) hL h)
            · refine ai (r_if_eq_f (pc := 117) 125 (by decide +kernel : decode k_P_Parser_takeItems.2.1 117 = .ok (.ifCond .eq (8), 3)) (by decide) c31) ?_
              refine ai (p_aload_n (pc := 120) (k := 0) (by decide +kernel : decode k_P_Parser_takeItems.2.1 120 = .ok (.aload_n 0, 1)) rfl rfl) ?_
              refine ai (r_iconst (pc := 121) (by decide +kernel : decode k_P_Parser_takeItems.2.1 121 = .ok (.iconst 5, 1)) ic_5) ?_
              obtain ⟨r32, m33, hr32, h⟩ := bn_some h
              have q34 := P_Parser_noteLate_run hL hr32
              have c35 := (PC_22 hL).1
              have hL := q34.2
              refine ai (q_callV (pc := 122) (As := [.int 5]) (st := []) (st2 := []) (b := 22) rfl rfl (by decide +kernel : decode k_P_Parser_takeItems.2.1 122 = .ok (.invokevirtual 164, 3)) lc_6_164 mo_P_Parser_noteLate ⟨Nat.le_of_ble_eq_true rfl, Nat.le_of_ble_eq_true rfl⟩ (Nat.le_of_ble_eq_true rfl) (Nat.le_of_ble_eq_true rfl) c35 q34.1) ?_
              exact (P_Parser_takeItems_125_run (fun _ _ _ _ q1 q3 => ih q1 q3) hL h)
set_option maxRecDepth 100000 in
set_option maxHeartbeats 4000000 in
theorem P_Parser_takeItems_run {m m' : Mem} {r : Int32} (hL : PL m) (h : P_Parser_takeItems m = some (r, m')) : Run k_P_Parser_takeItems 0 [(0, .ref 22)] [] m (some (.int r)) m' ∧ PL m' := by
  unfold P_Parser_takeItems at h
  refine ai (r_iconst (pc := 0) (by decide +kernel : decode k_P_Parser_takeItems.2.1 0 = .ok (.iconst 0, 1)) ic_0) ?_
  refine ai (e_istore_n (pc := 1) rfl (by decide +kernel : decode k_P_Parser_takeItems.2.1 1 = .ok (.istore_n 1, 1)) rfl (by decide) rfl) ?_
  exact (ai (r_sub [1, 0] rfl) (P_Parser_takeItems_2_run hL h))
