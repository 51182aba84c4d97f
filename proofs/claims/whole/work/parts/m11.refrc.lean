/-! written by gen/emit.py -/
set_option maxRecDepth 100000 in
set_option maxHeartbeats 4000000 in
theorem R_read_303_run {m m' : Mem} {r : Int32} (hL : RL m) (h : R_read_303 m = some (r, m')) : Run k_R_read 303 [(0, .ref 0)] [] m (some (.int r)) m' ∧ RL m' := by
  unfold R_read_303 at h
  refine ai (p_aload_n (pc := 303) (k := 0) (by decide +kernel : decode k_R_read.2.1 303 = .ok (.aload_n 0, 1)) rfl rfl) ?_
  refine ai (r_dup (pc := 304) (by decide +kernel : decode k_R_read.2.1 304 = .ok (.dup, 1)) (rfl)) ?_
  refine ai (r_getI (pc := 305) (by decide +kernel : decode k_R_read.2.1 305 = .ok (.getfield 341, 3)) lg_12_341 (by decide) (RC_0 hL).1) ?_
  refine ai (r_iconst (pc := 308) (by decide +kernel : decode k_R_read.2.1 308 = .ok (.iconst 1, 1)) ic_1) ?_
  refine ai (r_iadd (pc := 309) (by decide +kernel : decode k_R_read.2.1 309 = .ok (.iadd, 1))) ?_
  have c1 := (RC_0 hL).1
  obtain ⟨m2, hm2, h⟩ := vb_some h
  have hL : RL m2 := by rw [hm2]; exact hL
  refine ai (p_putI (pc := 310) hm2 (by decide +kernel : decode k_R_read.2.1 310 = .ok (.putfield 341, 3)) lp_12_341 c1) ?_
  refine ai (p_aload_n (pc := 313) (k := 0) (by decide +kernel : decode k_R_read.2.1 313 = .ok (.aload_n 0, 1)) rfl rfl) ?_
  refine ai (p_aload_n (pc := 314) (k := 0) (by decide +kernel : decode k_R_read.2.1 314 = .ok (.aload_n 0, 1)) rfl rfl) ?_
  refine ai (p_getr (pc := 315) (RR_1555_0 hL) (by decide +kernel : decode k_R_read.2.1 315 = .ok (.getfield 40, 3)) lg_12_40 (RC_0 hL).1) ?_
  refine ai (p_aload_n (pc := 318) (k := 0) (by decide +kernel : decode k_R_read.2.1 318 = .ok (.aload_n 0, 1)) rfl rfl) ?_
  refine ai (r_getI (pc := 319) (by decide +kernel : decode k_R_read.2.1 319 = .ok (.getfield 350, 3)) lg_12_350 (by decide) (RC_0 hL).1) ?_
  obtain ⟨g3, h⟩ := gd_some h
  refine ai (p_iald (pc := 322) (by decide +kernel : decode k_R_read.2.1 322 = .ok (.iaload, 1)) (RC_8 hL).1 (RC_8 hL).2 g3) ?_
  refine ai (p_aload_n (pc := 323) (k := 0) (by decide +kernel : decode k_R_read.2.1 323 = .ok (.aload_n 0, 1)) rfl rfl) ?_
  refine ai (r_getI (pc := 324) (by decide +kernel : decode k_R_read.2.1 324 = .ok (.getfield 350, 3)) lg_12_350 (by decide) (RC_0 hL).1) ?_
  refine ai (r_iconst (pc := 327) (by decide +kernel : decode k_R_read.2.1 327 = .ok (.iconst 0, 1)) ic_0) ?_
  refine ai (r_iconst (pc := 328) (by decide +kernel : decode k_R_read.2.1 328 = .ok (.iconst 0, 1)) ic_0) ?_
  refine ai (r_iconst (pc := 329) (by decide +kernel : decode k_R_read.2.1 329 = .ok (.iconst 0, 1)) ic_0) ?_
  obtain ⟨r4, m5, hr4, h⟩ := bn_some h
  have q6 := R_fact_run hL hr4
  have c7 := (RC_0 hL).1
  have hL := q6.2
  refine ai (q_callV (pc := 330) (As := [.int (aI m2 8 (ix (mI m2 1588 0))), .int (mI m2 1588 0), .int 0, .int 0, .int 0]) (st := []) (st2 := [.int r4]) (b := 0) rfl rfl (by decide +kernel : decode k_R_read.2.1 330 = .ok (.invokevirtual 378, 3)) lc_12_378 mo_R_fact ⟨Nat.le_of_ble_eq_true rfl, Nat.le_of_ble_eq_true rfl⟩ (Nat.le_of_ble_eq_true rfl) (Nat.le_of_ble_eq_true rfl) c7 q6.1) ?_
  refine ai (r_pop (pc := 333) (by decide +kernel : decode k_R_read.2.1 333 = .ok (.pop, 1)) (rfl)) ?_
  refine ai (r_iconst (pc := 334) (by decide +kernel : decode k_R_read.2.1 334 = .ok (.iconst 0, 1)) ic_0) ?_
  cases h
  exact ⟨r_iret rfl (by decide +kernel : decode k_R_read.2.1 335 = .ok (.ireturn, 1)), hL⟩
set_option maxRecDepth 100000 in
set_option maxHeartbeats 4000000 in
theorem R_read_230_run {s0 : Int32} {m m' : Mem} {r : Int32} (hL : RL m) (h : R_read_230 s0 m = some (r, m')) : Run k_R_read 230 [(0, .ref 0)] [.int s0, .ref 0] m (some (.int r)) m' ∧ RL m' := by
  unfold R_read_230 at h
  have c1 := (RC_0 hL).1
  obtain ⟨m2, hm2, h⟩ := vb_some h
  have hL : RL m2 := by rw [hm2]; exact hL
  refine ai (p_putI (pc := 230) hm2 (by decide +kernel : decode k_R_read.2.1 230 = .ok (.putfield 37, 3)) lp_12_37 c1) ?_
  refine ai (p_aload_n (pc := 233) (k := 0) (by decide +kernel : decode k_R_read.2.1 233 = .ok (.aload_n 0, 1)) rfl rfl) ?_
  refine ai (r_getI (pc := 234) (by decide +kernel : decode k_R_read.2.1 234 = .ok (.getfield 314, 3)) lg_12_314 (by decide) (RC_0 hL).1) ?_
  rcases ite_some h with ⟨c3, h⟩ | ⟨c3, h⟩
  · refine ai (r_if_le_t (pc := 237) (tgt := 245) (by decide +kernel : decode k_R_read.2.1 237 = .ok (.ifCond .le (8), 3)) (by decide) c3) ?_
    refine ai (p_aload_n (pc := 245) (k := 0) (by decide +kernel : decode k_R_read.2.1 245 = .ok (.aload_n 0, 1)) rfl rfl) ?_
    refine ai (r_getI (pc := 246) (by decide +kernel : decode k_R_read.2.1 246 = .ok (.getfield 323, 3)) lg_12_323 (by decide) (RC_0 hL).1) ?_
    rcases ite_some h with ⟨c4, h⟩ | ⟨c4, h⟩
    · refine ai (r_if_le_t (pc := 249) (tgt := 257) (by decide +kernel : decode k_R_read.2.1 249 = .ok (.ifCond .le (8), 3)) (by decide) c4) ?_
      refine ai (p_aload_n (pc := 257) (k := 0) (by decide +kernel : decode k_R_read.2.1 257 = .ok (.aload_n 0, 1)) rfl rfl) ?_
      refine ai (p_aload_n (pc := 258) (k := 0) (by decide +kernel : decode k_R_read.2.1 258 = .ok (.aload_n 0, 1)) rfl rfl) ?_
      refine ai (r_getI (pc := 259) (by decide +kernel : decode k_R_read.2.1 259 = .ok (.getfield 362, 3)) lg_12_362 (by decide) (RC_0 hL).1) ?_
      have c5 := (RC_0 hL).1
      obtain ⟨m6, hm6, h⟩ := vb_some h
      have hL : RL m6 := by rw [hm6]; exact hL
      refine ai (p_putI (pc := 262) hm6 (by decide +kernel : decode k_R_read.2.1 262 = .ok (.putfield 359, 3)) lp_12_359 c5) ?_
      refine ai (p_aload_n (pc := 265) (k := 0) (by decide +kernel : decode k_R_read.2.1 265 = .ok (.aload_n 0, 1)) rfl rfl) ?_
      refine ai (p_getr (pc := 266) (RR_1559_0 hL) (by decide +kernel : decode k_R_read.2.1 266 = .ok (.getfield 52, 3)) lg_12_52 (RC_0 hL).1) ?_
      refine ai (p_aload_n (pc := 269) (k := 0) (by decide +kernel : decode k_R_read.2.1 269 = .ok (.aload_n 0, 1)) rfl rfl) ?_
      refine ai (r_getI (pc := 270) (by decide +kernel : decode k_R_read.2.1 270 = .ok (.getfield 350, 3)) lg_12_350 (by decide) (RC_0 hL).1) ?_
      refine ai (p_aload_n (pc := 273) (k := 0) (by decide +kernel : decode k_R_read.2.1 273 = .ok (.aload_n 0, 1)) rfl rfl) ?_
      refine ai (r_getI (pc := 274) (by decide +kernel : decode k_R_read.2.1 274 = .ok (.getfield 338, 3)) lg_12_338 (by decide) (RC_0 hL).1) ?_
      obtain ⟨g7, h⟩ := gd_some h
      have c8 := (RC_12 hL).1
      have c9 := (RC_12 hL).2
      obtain ⟨m10, hm10, h⟩ := vb_some h
      have hL : RL m10 := by rw [hm10]; exact hL
      refine ai (p_iast (pc := 277) hm10 (by decide +kernel : decode k_R_read.2.1 277 = .ok (.iastore, 1)) c8 c9 g7) ?_
      refine ai (p_aload_n (pc := 278) (k := 0) (by decide +kernel : decode k_R_read.2.1 278 = .ok (.aload_n 0, 1)) rfl rfl) ?_
      refine ai (p_getr (pc := 279) (RR_1555_0 hL) (by decide +kernel : decode k_R_read.2.1 279 = .ok (.getfield 40, 3)) lg_12_40 (RC_0 hL).1) ?_
      refine ai (p_aload_n (pc := 282) (k := 0) (by decide +kernel : decode k_R_read.2.1 282 = .ok (.aload_n 0, 1)) rfl rfl) ?_
      refine ai (r_getI (pc := 283) (by decide +kernel : decode k_R_read.2.1 283 = .ok (.getfield 350, 3)) lg_12_350 (by decide) (RC_0 hL).1) ?_
      obtain ⟨g11, h⟩ := gd_some h
      refine ai (p_iald (pc := 286) (by decide +kernel : decode k_R_read.2.1 286 = .ok (.iaload, 1)) (RC_8 hL).1 (RC_8 hL).2 g11) ?_
      rcases ite_some h with ⟨c12, h⟩ | ⟨c12, h⟩
      · refine ai (r_if_ne_f (pc := 287) 303 (by decide +kernel : decode k_R_read.2.1 287 = .ok (.ifCond .ne (16), 3)) (by decide) c12) ?_
        refine ai (p_aload_n (pc := 290) (k := 0) (by decide +kernel : decode k_R_read.2.1 290 = .ok (.aload_n 0, 1)) rfl rfl) ?_
        refine ai (p_getr (pc := 291) (RR_1560_0 hL) (by decide +kernel : decode k_R_read.2.1 291 = .ok (.getfield 55, 3)) lg_12_55 (RC_0 hL).1) ?_
        refine ai (p_aload_n (pc := 294) (k := 0) (by decide +kernel : decode k_R_read.2.1 294 = .ok (.aload_n 0, 1)) rfl rfl) ?_
        refine ai (r_getI (pc := 295) (by decide +kernel : decode k_R_read.2.1 295 = .ok (.getfield 350, 3)) lg_12_350 (by decide) (RC_0 hL).1) ?_
        refine ai (p_aload_n (pc := 298) (k := 0) (by decide +kernel : decode k_R_read.2.1 298 = .ok (.aload_n 0, 1)) rfl rfl) ?_
        refine ai (r_getI (pc := 299) (by decide +kernel : decode k_R_read.2.1 299 = .ok (.getfield 350, 3)) lg_12_350 (by decide) (RC_0 hL).1) ?_
        obtain ⟨g13, h⟩ := gd_some h
        have c14 := (RC_13 hL).1
        have c15 := (RC_13 hL).2
        obtain ⟨m16, hm16, h⟩ := vb_some h
        have hL : RL m16 := by rw [hm16]; exact hL
        refine ai (p_iast (pc := 302) hm16 (by decide +kernel : decode k_R_read.2.1 302 = .ok (.iastore, 1)) c14 c15 g13) ?_
        exact (R_read_303_run hL h)
      · refine ai (r_if_ne_t (pc := 287) (tgt := 303) (by decide +kernel : decode k_R_read.2.1 287 = .ok (.ifCond .ne (16), 3)) (by decide) c12) ?_
        exact (R_read_303_run hL h)
    · refine ai (r_if_le_f (pc := 249) 257 (by decide +kernel : decode k_R_read.2.1 249 = .ok (.ifCond .le (8), 3)) (by decide) c4) ?_
      refine ai (p_aload_n (pc := 252) (k := 0) (by decide +kernel : decode k_R_read.2.1 252 = .ok (.aload_n 0, 1)) rfl rfl) ?_
      refine ai (r_getI (pc := 253) (by decide +kernel : decode k_R_read.2.1 253 = .ok (.getfield 323, 3)) lg_12_323 (by decide) (RC_0 hL).1) ?_
      cases h
      exact ⟨r_iret rfl (by decide +kernel : decode k_R_read.2.1 256 = .ok (.ireturn, 1)), hL⟩
  · refine ai (r_if_le_f (pc := 237) 245 (by decide +kernel : decode k_R_read.2.1 237 = .ok (.ifCond .le (8), 3)) (by decide) c3) ?_
    refine ai (p_aload_n (pc := 240) (k := 0) (by decide +kernel : decode k_R_read.2.1 240 = .ok (.aload_n 0, 1)) rfl rfl) ?_
    refine ai (r_getI (pc := 241) (by decide +kernel : decode k_R_read.2.1 241 = .ok (.getfield 314, 3)) lg_12_314 (by decide) (RC_0 hL).1) ?_
    cases h
    exact ⟨r_iret rfl (by decide +kernel : decode k_R_read.2.1 244 = .ok (.ireturn, 1)), hL⟩
set_option maxRecDepth 100000 in
set_option maxHeartbeats 4000000 in
theorem R_read_200_run {m m' : Mem} {r : Int32} (hL : RL m) (h : R_read_200 m = some (r, m')) : Run k_R_read 200 [(0, .ref 0)] [] m (some (.int r)) m' ∧ RL m' := by
  unfold R_read_200 at h
  refine ai (p_aload_n (pc := 200) (k := 0) (by decide +kernel : decode k_R_read.2.1 200 = .ok (.aload_n 0, 1)) rfl rfl) ?_
  refine ai (p_aload_n (pc := 201) (k := 0) (by decide +kernel : decode k_R_read.2.1 201 = .ok (.aload_n 0, 1)) rfl rfl) ?_
  refine ai (r_getI (pc := 202) (by decide +kernel : decode k_R_read.2.1 202 = .ok (.getfield 314, 3)) lg_12_314 (by decide) (RC_0 hL).1) ?_
  rcases ite_some h with ⟨c1, h⟩ | ⟨c1, h⟩
  · refine ai (r_if_le_t (pc := 205) (tgt := 215) (by decide +kernel : decode k_R_read.2.1 205 = .ok (.ifCond .le (10), 3)) (by decide) c1) ?_
    refine ai (p_aload_n (pc := 215) (k := 0) (by decide +kernel : decode k_R_read.2.1 215 = .ok (.aload_n 0, 1)) rfl rfl) ?_
    refine ai (r_getI (pc := 216) (by decide +kernel : decode k_R_read.2.1 216 = .ok (.getfield 323, 3)) lg_12_323 (by decide) (RC_0 hL).1) ?_
    rcases ite_some h with ⟨c2, h⟩ | ⟨c2, h⟩
    · refine ai (r_if_le_t (pc := 219) (tgt := 229) (by decide +kernel : decode k_R_read.2.1 219 = .ok (.ifCond .le (10), 3)) (by decide) c2) ?_
      refine ai (r_iconst (pc := 229) (by decide +kernel : decode k_R_read.2.1 229 = .ok (.iconst (-1), 1)) ic_m1) ?_
      exact (R_read_230_run hL h)
    · refine ai (r_if_le_f (pc := 219) 229 (by decide +kernel : decode k_R_read.2.1 219 = .ok (.ifCond .le (10), 3)) (by decide) c2) ?_
      refine ai (p_aload_n (pc := 222) (k := 0) (by decide +kernel : decode k_R_read.2.1 222 = .ok (.aload_n 0, 1)) rfl rfl) ?_
      refine ai (r_getI (pc := 223) (by decide +kernel : decode k_R_read.2.1 223 = .ok (.getfield 326, 3)) lg_12_326 (by decide) (RC_0 hL).1) ?_
      refine ai (r_goto (pc := 226) (tgt := 230) (by decide +kernel : decode k_R_read.2.1 226 = .ok (.goto (4), 3)) (by decide)) ?_
      exact (R_read_230_run hL h)
  · refine ai (r_if_le_f (pc := 205) 215 (by decide +kernel : decode k_R_read.2.1 205 = .ok (.ifCond .le (10), 3)) (by decide) c1) ?_
    refine ai (p_aload_n (pc := 208) (k := 0) (by decide +kernel : decode k_R_read.2.1 208 = .ok (.aload_n 0, 1)) rfl rfl) ?_
    refine ai (r_getI (pc := 209) (by decide +kernel : decode k_R_read.2.1 209 = .ok (.getfield 320, 3)) lg_12_320 (by decide) (RC_0 hL).1) ?_
    refine ai (r_goto (pc := 212) (tgt := 230) (by decide +kernel : decode k_R_read.2.1 212 = .ok (.goto (18), 3)) (by decide)) ?_
    exact (R_read_230_run hL h)
set_option maxRecDepth 100000 in
set_option maxHeartbeats 4000000 in
theorem R_read_168_run {m m' : Mem} {r : Int32} (hL : RL m) (h : R_read_168 m = some (r, m')) : Run k_R_read 168 [(0, .ref 0)] [] m (some (.int r)) m' ∧ RL m' := by
  unfold R_read_168 at h
  refine ai (p_aload_n (pc := 168) (k := 0) (by decide +kernel : decode k_R_read.2.1 168 = .ok (.aload_n 0, 1)) rfl rfl) ?_
  refine ai (r_getI (pc := 169) (by decide +kernel : decode k_R_read.2.1 169 = .ok (.getfield 314, 3)) lg_12_314 (by decide) (RC_0 hL).1) ?_
  rcases ite_some h with ⟨c1, h⟩ | ⟨c1, h⟩
  · refine ai (r_if_ne_f (pc := 172) 200 (by decide +kernel : decode k_R_read.2.1 172 = .ok (.ifCond .ne (28), 3)) (by decide) c1) ?_
    refine ai (p_aload_n (pc := 175) (k := 0) (by decide +kernel : decode k_R_read.2.1 175 = .ok (.aload_n 0, 1)) rfl rfl) ?_
    refine ai (r_getI (pc := 176) (by decide +kernel : decode k_R_read.2.1 176 = .ok (.getfield 323, 3)) lg_12_323 (by decide) (RC_0 hL).1) ?_
    rcases ite_some h with ⟨c2, h⟩ | ⟨c2, h⟩
    · refine ai (r_if_ne_f (pc := 179) 200 (by decide +kernel : decode k_R_read.2.1 179 = .ok (.ifCond .ne (21), 3)) (by decide) c2) ?_
      refine ai (p_aload_n (pc := 182) (k := 0) (by decide +kernel : decode k_R_read.2.1 182 = .ok (.aload_n 0, 1)) rfl rfl) ?_
      refine ai (r_getI (pc := 183) (by decide +kernel : decode k_R_read.2.1 183 = .ok (.getfield 365, 3)) lg_12_365 (by decide) (RC_0 hL).1) ?_
      refine ai (r_iconst (pc := 186) (by decide +kernel : decode k_R_read.2.1 186 = .ok (.iconst (-1), 1)) ic_m1) ?_
      rcases ite_some h with ⟨c3, h⟩ | ⟨c3, h⟩
      · refine ai (r_icmp_eq_t (pc := 187) (tgt := 200) (by decide +kernel : decode k_R_read.2.1 187 = .ok (.if_icmp .eq (13), 3)) (by decide) c3) ?_
        exact (R_read_200_run hL h)
      · refine ai (r_icmp_eq_f (pc := 187) 200 (by decide +kernel : decode k_R_read.2.1 187 = .ok (.if_icmp .eq (13), 3)) (by decide) c3) ?_
        refine ai (p_aload_n (pc := 190) (k := 0) (by decide +kernel : decode k_R_read.2.1 190 = .ok (.aload_n 0, 1)) rfl rfl) ?_
        refine ai (r_bipush (pc := 191) (by decide +kernel : decode k_R_read.2.1 191 = .ok (.bipush (6), 2)) (by decide : _ = (6 : Int32))) ?_
        refine ai (p_aload_n (pc := 193) (k := 0) (by decide +kernel : decode k_R_read.2.1 193 = .ok (.aload_n 0, 1)) rfl rfl) ?_
        refine ai (r_getI (pc := 194) (by decide +kernel : decode k_R_read.2.1 194 = .ok (.getfield 365, 3)) lg_12_365 (by decide) (RC_0 hL).1) ?_
        obtain ⟨r4, m5, hr4, h⟩ := bn_some h
        have q6 := R_wrong_run hL hr4
        have c7 := (RC_0 hL).1
        have hL := q6.2
        refine ai (q_callV (pc := 197) (As := [.int 6, .int (mI m 1587 0)]) (st := []) (st2 := []) (b := 0) rfl rfl (by decide +kernel : decode k_R_read.2.1 197 = .ok (.invokevirtual 374, 3)) lc_12_374 mo_R_wrong ⟨Nat.le_of_ble_eq_true rfl, Nat.le_of_ble_eq_true rfl⟩ (Nat.le_of_ble_eq_true rfl) (Nat.le_of_ble_eq_true rfl) c7 q6.1) ?_
        exact (R_read_200_run hL h)
    · refine ai (r_if_ne_t (pc := 179) (tgt := 200) (by decide +kernel : decode k_R_read.2.1 179 = .ok (.ifCond .ne (21), 3)) (by decide) c2) ?_
      exact (R_read_200_run hL h)
  · refine ai (r_if_ne_t (pc := 172) (tgt := 200) (by decide +kernel : decode k_R_read.2.1 172 = .ok (.ifCond .ne (28), 3)) (by decide) c1) ?_
    exact (R_read_200_run hL h)
set_option maxRecDepth 100000 in
set_option maxHeartbeats 4000000 in
theorem R_read_146_run {n : Nat} {m m' : Mem} {r : Int32} (hL : RL m) (h : R_read_146 n m = some (r, m')) : Run k_R_read 146 [(0, .ref 0)] [] m (some (.int r)) m' ∧ RL m' := by
  induction n generalizing m r m' with
  | zero => exact absurd h (by simp [R_read_146])
  | succ n ih =>
    rw [R_read_146.eq_2] at h
    refine ai (p_aload_n (pc := 146) (k := 0) (by decide +kernel : decode k_R_read.2.1 146 = .ok (.aload_n 0, 1)) rfl rfl) ?_
    refine ai (r_getI (pc := 147) (by decide +kernel : decode k_R_read.2.1 147 = .ok (.getfield 314, 3)) lg_12_314 (by decide) (RC_0 hL).1) ?_
    rcases ite_some h with ⟨c1, h⟩ | ⟨c1, h⟩
    · refine ai (r_if_ne_f (pc := 150) 168 (by decide +kernel : decode k_R_read.2.1 150 = .ok (.ifCond .ne (18), 3)) (by decide) c1) ?_
      refine ai (p_aload_n (pc := 153) (k := 0) (by decide +kernel : decode k_R_read.2.1 153 = .ok (.aload_n 0, 1)) rfl rfl) ?_
      refine ai (r_iconst (pc := 154) (by decide +kernel : decode k_R_read.2.1 154 = .ok (.iconst 0, 1)) ic_0) ?_
      obtain ⟨r2, m3, hr2, h⟩ := bn_some h
      have q4 := R_is_run hL hr2
      have c5 := (RC_0 hL).1
      have hL := q4.2
      refine ai (q_callV (pc := 155) (As := [.int 0]) (st := []) (st2 := [.int r2]) (b := 0) rfl rfl (by decide +kernel : decode k_R_read.2.1 155 = .ok (.invokevirtual 332, 3)) lc_12_332 mo_R_is ⟨Nat.le_of_ble_eq_true rfl, Nat.le_of_ble_eq_true rfl⟩ (Nat.le_of_ble_eq_true rfl) (Nat.le_of_ble_eq_true rfl) c5 q4.1) ?_
      rcases ite_some h with ⟨c6, h⟩ | ⟨c6, h⟩
      · refine ai (r_if_ne_f (pc := 158) 168 (by decide +kernel : decode k_R_read.2.1 158 = .ok (.ifCond .ne (10), 3)) (by decide) c6) ?_
        refine ai (p_aload_n (pc := 161) (k := 0) (by decide +kernel : decode k_R_read.2.1 161 = .ok (.aload_n 0, 1)) rfl rfl) ?_
        obtain ⟨r7, m8, hr7, h⟩ := bn_some h
        have q9 := R_tellItem_run hL hr7
        have c10 := (RC_0 hL).1
        have hL := q9.2
        refine ai (q_callV (pc := 162) (As := []) (st := []) (st2 := []) (b := 0) rfl rfl (by decide +kernel : decode k_R_read.2.1 162 = .ok (.invokevirtual 371, 3)) lc_12_371 mo_R_tellItem ⟨Nat.le_of_ble_eq_true rfl, Nat.le_of_ble_eq_true rfl⟩ (Nat.le_of_ble_eq_true rfl) (Nat.le_of_ble_eq_true rfl) c10 q9.1) ?_
        refine ai (r_goto (pc := 165) (tgt := 146) (by decide +kernel : decode k_R_read.2.1 165 = .ok (.goto (-19), 3)) (by decide)) ?_
        exact (ih hL h)
      · refine ai (r_if_ne_t (pc := 158) (tgt := 168) (by decide +kernel : decode k_R_read.2.1 158 = .ok (.ifCond .ne (10), 3)) (by decide) c6) ?_
        exact (R_read_168_run hL h)
    · refine ai (r_if_ne_t (pc := 150) (tgt := 168) (by decide +kernel : decode k_R_read.2.1 150 = .ok (.ifCond .ne (18), 3)) (by decide) c1) ?_
      exact (R_read_168_run hL h)
set_option maxRecDepth 100000 in
set_option maxHeartbeats 4000000 in
theorem R_read_58_run {m m' : Mem} {r : Int32} (hL : RL m) (h : R_read_58 m = some (r, m')) : Run k_R_read 58 [(0, .ref 0)] [] m (some (.int r)) m' ∧ RL m' := by
  unfold R_read_58 at h
  refine ai (p_aload_n (pc := 58) (k := 0) (by decide +kernel : decode k_R_read.2.1 58 = .ok (.aload_n 0, 1)) rfl rfl) ?_
  refine ai (r_iconst (pc := 59) (by decide +kernel : decode k_R_read.2.1 59 = .ok (.iconst 0, 1)) ic_0) ?_
  have c1 := (RC_0 hL).1
  obtain ⟨m2, hm2, h⟩ := vb_some h
  have hL : RL m2 := by rw [hm2]; exact hL
  refine ai (p_putI (pc := 60) hm2 (by decide +kernel : decode k_R_read.2.1 60 = .ok (.putfield 276, 3)) lp_12_276 c1) ?_
  refine ai (p_aload_n (pc := 63) (k := 0) (by decide +kernel : decode k_R_read.2.1 63 = .ok (.aload_n 0, 1)) rfl rfl) ?_
  obtain ⟨r3, m4, hr3, h⟩ := bn_some h
  have q5 := R_cut_run hL hr3
  have c6 := (RC_0 hL).1
  have hL := q5.2
  refine ai (q_callV (pc := 64) (As := []) (st := []) (st2 := []) (b := 0) rfl rfl (by decide +kernel : decode k_R_read.2.1 64 = .ok (.invokevirtual 344, 3)) lc_12_344 mo_R_cut ⟨Nat.le_of_ble_eq_true rfl, Nat.le_of_ble_eq_true rfl⟩ (Nat.le_of_ble_eq_true rfl) (Nat.le_of_ble_eq_true rfl) c6 q5.1) ?_
  refine ai (p_aload_n (pc := 67) (k := 0) (by decide +kernel : decode k_R_read.2.1 67 = .ok (.aload_n 0, 1)) rfl rfl) ?_
  refine ai (r_iconst (pc := 68) (by decide +kernel : decode k_R_read.2.1 68 = .ok (.iconst 0, 1)) ic_0) ?_
  have c7 := (RC_0 hL).1
  obtain ⟨m8, hm8, h⟩ := vb_some h
  have hL : RL m8 := by rw [hm8]; exact hL
  refine ai (p_putI (pc := 69) hm8 (by decide +kernel : decode k_R_read.2.1 69 = .ok (.putfield 317, 3)) lp_12_317 c7) ?_
  refine ai (p_aload_n (pc := 72) (k := 0) (by decide +kernel : decode k_R_read.2.1 72 = .ok (.aload_n 0, 1)) rfl rfl) ?_
  refine ai (r_iconst (pc := 73) (by decide +kernel : decode k_R_read.2.1 73 = .ok (.iconst 0, 1)) ic_0) ?_
  have c9 := (RC_0 hL).1
  obtain ⟨m10, hm10, h⟩ := vb_some h
  have hL : RL m10 := by rw [hm10]; exact hL
  refine ai (p_putI (pc := 74) hm10 (by decide +kernel : decode k_R_read.2.1 74 = .ok (.putfield 347, 3)) lp_12_347 c9) ?_
  refine ai (p_aload_n (pc := 77) (k := 0) (by decide +kernel : decode k_R_read.2.1 77 = .ok (.aload_n 0, 1)) rfl rfl) ?_
  refine ai (r_iconst (pc := 78) (by decide +kernel : decode k_R_read.2.1 78 = .ok (.iconst 0, 1)) ic_0) ?_
  have c11 := (RC_0 hL).1
  obtain ⟨m12, hm12, h⟩ := vb_some h
  have hL : RL m12 := by rw [hm12]; exact hL
  refine ai (p_putI (pc := 79) hm12 (by decide +kernel : decode k_R_read.2.1 79 = .ok (.putfield 314, 3)) lp_12_314 c11) ?_
  refine ai (p_aload_n (pc := 82) (k := 0) (by decide +kernel : decode k_R_read.2.1 82 = .ok (.aload_n 0, 1)) rfl rfl) ?_
  refine ai (r_iconst (pc := 83) (by decide +kernel : decode k_R_read.2.1 83 = .ok (.iconst 0, 1)) ic_0) ?_
  have c13 := (RC_0 hL).1
  obtain ⟨m14, hm14, h⟩ := vb_some h
  have hL : RL m14 := by rw [hm14]; exact hL
  refine ai (p_putI (pc := 84) hm14 (by decide +kernel : decode k_R_read.2.1 84 = .ok (.putfield 323, 3)) lp_12_323 c13) ?_
  refine ai (p_aload_n (pc := 87) (k := 0) (by decide +kernel : decode k_R_read.2.1 87 = .ok (.aload_n 0, 1)) rfl rfl) ?_
  refine ai (p_aload_n (pc := 88) (k := 0) (by decide +kernel : decode k_R_read.2.1 88 = .ok (.aload_n 0, 1)) rfl rfl) ?_
  refine ai (r_getI (pc := 89) (by decide +kernel : decode k_R_read.2.1 89 = .ok (.getfield 341, 3)) lg_12_341 (by decide) (RC_0 hL).1) ?_
  have c15 := (RC_0 hL).1
  obtain ⟨m16, hm16, h⟩ := vb_some h
  have hL : RL m16 := by rw [hm16]; exact hL
  refine ai (p_putI (pc := 92) hm16 (by decide +kernel : decode k_R_read.2.1 92 = .ok (.putfield 350, 3)) lp_12_350 c15) ?_
  refine ai (p_aload_n (pc := 95) (k := 0) (by decide +kernel : decode k_R_read.2.1 95 = .ok (.aload_n 0, 1)) rfl rfl) ?_
  refine ai (p_getr (pc := 96) (RR_1561_0 hL) (by decide +kernel : decode k_R_read.2.1 96 = .ok (.getfield 58, 3)) lg_12_58 (RC_0 hL).1) ?_
  refine ai (p_aload_n (pc := 99) (k := 0) (by decide +kernel : decode k_R_read.2.1 99 = .ok (.aload_n 0, 1)) rfl rfl) ?_
  refine ai (r_getI (pc := 100) (by decide +kernel : decode k_R_read.2.1 100 = .ok (.getfield 350, 3)) lg_12_350 (by decide) (RC_0 hL).1) ?_
  refine ai (r_iconst (pc := 103) (by decide +kernel : decode k_R_read.2.1 103 = .ok (.iconst 0, 1)) ic_0) ?_
  obtain ⟨g17, h⟩ := gd_some h
  have c18 := (RC_14 hL).1
  have c19 := (RC_14 hL).2
  obtain ⟨m20, hm20, h⟩ := vb_some h
  have hL : RL m20 := by rw [hm20]; exact hL
  refine ai (p_iast (pc := 104) hm20 (by decide +kernel : decode k_R_read.2.1 104 = .ok (.iastore, 1)) c18 c19 g17) ?_
  refine ai (p_aload_n (pc := 105) (k := 0) (by decide +kernel : decode k_R_read.2.1 105 = .ok (.aload_n 0, 1)) rfl rfl) ?_
  refine ai (r_sipush (pc := 106) (by decide +kernel : decode k_R_read.2.1 106 = .ok (.sipush (200), 3)) (by decide : _ = (200 : Int32))) ?_
  refine ai (p_aload_n (pc := 109) (k := 0) (by decide +kernel : decode k_R_read.2.1 109 = .ok (.aload_n 0, 1)) rfl rfl) ?_
  refine ai (r_getI (pc := 110) (by decide +kernel : decode k_R_read.2.1 110 = .ok (.getfield 350, 3)) lg_12_350 (by decide) (RC_0 hL).1) ?_
  refine ai (r_imul (pc := 113) (by decide +kernel : decode k_R_read.2.1 113 = .ok (.imul, 1))) ?_
  have c21 := (RC_0 hL).1
  obtain ⟨m22, hm22, h⟩ := vb_some h
  have hL : RL m22 := by rw [hm22]; exact hL
  refine ai (p_putI (pc := 114) hm22 (by decide +kernel : decode k_R_read.2.1 114 = .ok (.putfield 353, 3)) lp_12_353 c21) ?_
  refine ai (p_aload_n (pc := 117) (k := 0) (by decide +kernel : decode k_R_read.2.1 117 = .ok (.aload_n 0, 1)) rfl rfl) ?_
  refine ai (r_sipush (pc := 118) (by decide +kernel : decode k_R_read.2.1 118 = .ok (.sipush (500), 3)) (by decide : _ = (500 : Int32))) ?_
  refine ai (p_aload_n (pc := 121) (k := 0) (by decide +kernel : decode k_R_read.2.1 121 = .ok (.aload_n 0, 1)) rfl rfl) ?_
  refine ai (r_getI (pc := 122) (by decide +kernel : decode k_R_read.2.1 122 = .ok (.getfield 350, 3)) lg_12_350 (by decide) (RC_0 hL).1) ?_
  refine ai (r_imul (pc := 125) (by decide +kernel : decode k_R_read.2.1 125 = .ok (.imul, 1))) ?_
  have c23 := (RC_0 hL).1
  obtain ⟨m24, hm24, h⟩ := vb_some h
  have hL : RL m24 := by rw [hm24]; exact hL
  refine ai (p_putI (pc := 126) hm24 (by decide +kernel : decode k_R_read.2.1 126 = .ok (.putfield 356, 3)) lp_12_356 c23) ?_
  refine ai (p_aload_n (pc := 129) (k := 0) (by decide +kernel : decode k_R_read.2.1 129 = .ok (.aload_n 0, 1)) rfl rfl) ?_
  refine ai (p_aload_n (pc := 130) (k := 0) (by decide +kernel : decode k_R_read.2.1 130 = .ok (.aload_n 0, 1)) rfl rfl) ?_
  refine ai (r_getI (pc := 131) (by decide +kernel : decode k_R_read.2.1 131 = .ok (.getfield 359, 3)) lg_12_359 (by decide) (RC_0 hL).1) ?_
  have c25 := (RC_0 hL).1
  obtain ⟨m26, hm26, h⟩ := vb_some h
  have hL : RL m26 := by rw [hm26]; exact hL
  refine ai (p_putI (pc := 134) hm26 (by decide +kernel : decode k_R_read.2.1 134 = .ok (.putfield 362, 3)) lp_12_362 c25) ?_
  refine ai (p_aload_n (pc := 137) (k := 0) (by decide +kernel : decode k_R_read.2.1 137 = .ok (.aload_n 0, 1)) rfl rfl) ?_
  refine ai (r_iconst (pc := 138) (by decide +kernel : decode k_R_read.2.1 138 = .ok (.iconst (-1), 1)) ic_m1) ?_
  have c27 := (RC_0 hL).1
  obtain ⟨m28, hm28, h⟩ := vb_some h
  have hL : RL m28 := by rw [hm28]; exact hL
  refine ai (p_putI (pc := 139) hm28 (by decide +kernel : decode k_R_read.2.1 139 = .ok (.putfield 365, 3)) lp_12_365 c27) ?_
  refine ai (p_aload_n (pc := 142) (k := 0) (by decide +kernel : decode k_R_read.2.1 142 = .ok (.aload_n 0, 1)) rfl rfl) ?_
  obtain ⟨r29, m30, hr29, h⟩ := bn_some h
  have q31 := R_tellHead_run hL hr29
  have c32 := (RC_0 hL).1
  have hL := q31.2
  refine ai (q_callV (pc := 143) (As := []) (st := []) (st2 := []) (b := 0) rfl rfl (by decide +kernel : decode k_R_read.2.1 143 = .ok (.invokevirtual 368, 3)) lc_12_368 mo_R_tellHead ⟨Nat.le_of_ble_eq_true rfl, Nat.le_of_ble_eq_true rfl⟩ (Nat.le_of_ble_eq_true rfl) (Nat.le_of_ble_eq_true rfl) c32 q31.1) ?_
  exact (R_read_146_run hL h)
set_option maxRecDepth 100000 in
set_option maxHeartbeats 4000000 in
theorem R_read_32_run {n : Nat} {x1 : Int32} {m m' : Mem} {r : Int32} (hL : RL m) (h : R_read_32 n x1 m = some (r, m')) : Run k_R_read 32 [(0, .ref 0), (1, .int x1)] [] m (some (.int r)) m' ∧ RL m' := by
  induction n generalizing x1 m r m' with
  | zero => exact absurd h (by simp [R_read_32])
  | succ n ih =>
    rw [R_read_32.eq_2] at h
    refine ai (r_iload_n (pc := 32) (k := 1) (by decide +kernel : decode k_R_read.2.1 32 = .ok (.iload_n 1, 1)) rfl rfl) ?_
    refine ai (p_aload_n (pc := 33) (k := 0) (by decide +kernel : decode k_R_read.2.1 33 = .ok (.aload_n 0, 1)) rfl rfl) ?_
    refine ai (r_getI (pc := 34) (by decide +kernel : decode k_R_read.2.1 34 = .ok (.getfield 283, 3)) lg_12_283 (by decide) (RC_0 hL).1) ?_
    rcases ite_some h with ⟨c1, h⟩ | ⟨c1, h⟩
    · refine ai (r_icmp_ge_t (pc := 37) (tgt := 58) (by decide +kernel : decode k_R_read.2.1 37 = .ok (.if_icmp .ge (21), 3)) (by decide) c1) ?_
      exact (ai (r_sub [0] rfl) (R_read_58_run hL h))
    · refine ai (r_icmp_ge_f (pc := 37) 58 (by decide +kernel : decode k_R_read.2.1 37 = .ok (.if_icmp .ge (21), 3)) (by decide) c1) ?_
      refine ai (p_aload_n (pc := 40) (k := 0) (by decide +kernel : decode k_R_read.2.1 40 = .ok (.aload_n 0, 1)) rfl rfl) ?_
      refine ai (p_getr (pc := 41) (RR_1539_0 hL) (by decide +kernel : decode k_R_read.2.1 41 = .ok (.getfield 17, 3)) lg_12_17 (RC_0 hL).1) ?_
      refine ai (r_iload_n (pc := 44) (k := 1) (by decide +kernel : decode k_R_read.2.1 44 = .ok (.iload_n 1, 1)) rfl rfl) ?_
      refine ai (p_aload_n (pc := 45) (k := 0) (by decide +kernel : decode k_R_read.2.1 45 = .ok (.aload_n 0, 1)) rfl rfl) ?_
      refine ai (p_getr (pc := 46) (RR_1537_0 hL) (by decide +kernel : decode k_R_read.2.1 46 = .ok (.getfield 13, 3)) lg_12_13 (RC_0 hL).1) ?_
      refine ai (r_iload_n (pc := 49) (k := 1) (by decide +kernel : decode k_R_read.2.1 49 = .ok (.iload_n 1, 1)) rfl rfl) ?_
      obtain ⟨g2, h⟩ := gd_some h
      refine ai (p_bald (pc := 50) (by decide +kernel : decode k_R_read.2.1 50 = .ok (.baload, 1)) (RC_1 hL).1 (RC_1 hL).2 g2) ?_
      obtain ⟨g3, h⟩ := gd_some h
      have c4 := (RC_2 hL).1
      have c5 := (RC_2 hL).2
      obtain ⟨m6, hm6, h⟩ := vb_some h
      have hL : RL m6 := by rw [hm6]; exact hL
      refine ai (p_bast (pc := 51) hm6 (by decide +kernel : decode k_R_read.2.1 51 = .ok (.bastore, 1)) c4 c5 g3) ?_
      obtain ⟨v7, hv7, h⟩ := vb_some h
      refine ai (e_iinc (pc := 52) (k := 1) hv7 ic_1 (by decide +kernel : decode k_R_read.2.1 52 = .ok (.iinc 1 (1), 3)) rfl (by decide) rfl) ?_
      refine ai (r_goto (pc := 55) (tgt := 32) (by decide +kernel : decode k_R_read.2.1 55 = .ok (.goto (-23), 3)) (by decide)) ?_
      exact (ai (r_sub [1, 0] rfl) (ih hL h))
set_option maxRecDepth 100000 in
set_option maxHeartbeats 4000000 in
theorem R_read_run {m m' : Mem} {r : Int32} (hL : RL m) (h : R_read m = some (r, m')) : Run k_R_read 0 [(0, .ref 0)] [] m (some (.int r)) m' ∧ RL m' := by
  unfold R_read at h
  refine ai (p_aload_n (pc := 0) (k := 0) (by decide +kernel : decode k_R_read.2.1 0 = .ok (.aload_n 0, 1)) rfl rfl) ?_
  refine ai (r_getI (pc := 1) (by decide +kernel : decode k_R_read.2.1 1 = .ok (.getfield 338, 3)) lg_12_338 (by decide) (RC_0 hL).1) ?_
  refine ai (r_sipush (pc := 4) (by decide +kernel : decode k_R_read.2.1 4 = .ok (.sipush (160), 3)) (by decide : _ = (160 : Int32))) ?_
  rcases ite_some h with ⟨c1, h⟩ | ⟨c1, h⟩
  · refine ai (r_icmp_eq_t (pc := 7) (tgt := 19) (by decide +kernel : decode k_R_read.2.1 7 = .ok (.if_icmp .eq (12), 3)) (by decide) c1) ?_
    refine ai (r_bipush (pc := 19) (by decide +kernel : decode k_R_read.2.1 19 = .ok (.bipush (-2), 2)) (by decide : _ = (-2 : Int32))) ?_
    cases h
    exact ⟨r_iret rfl (by decide +kernel : decode k_R_read.2.1 21 = .ok (.ireturn, 1)), hL⟩
  · refine ai (r_icmp_eq_f (pc := 7) 19 (by decide +kernel : decode k_R_read.2.1 7 = .ok (.if_icmp .eq (12), 3)) (by decide) c1) ?_
    refine ai (p_aload_n (pc := 10) (k := 0) (by decide +kernel : decode k_R_read.2.1 10 = .ok (.aload_n 0, 1)) rfl rfl) ?_
    refine ai (r_getI (pc := 11) (by decide +kernel : decode k_R_read.2.1 11 = .ok (.getfield 341, 3)) lg_12_341 (by decide) (RC_0 hL).1) ?_
    refine ai (r_bipush (pc := 14) (by decide +kernel : decode k_R_read.2.1 14 = .ok (.bipush (24), 2)) (by decide : _ = (24 : Int32))) ?_
    rcases ite_some h with ⟨c2, h⟩ | ⟨c2, h⟩
    · refine ai (r_icmp_ne_f (pc := 16) 22 (by decide +kernel : decode k_R_read.2.1 16 = .ok (.if_icmp .ne (6), 3)) (by decide) c2) ?_
      refine ai (r_bipush (pc := 19) (by decide +kernel : decode k_R_read.2.1 19 = .ok (.bipush (-2), 2)) (by decide : _ = (-2 : Int32))) ?_
      cases h
      exact ⟨r_iret rfl (by decide +kernel : decode k_R_read.2.1 21 = .ok (.ireturn, 1)), hL⟩
    · refine ai (r_icmp_ne_t (pc := 16) (tgt := 22) (by decide +kernel : decode k_R_read.2.1 16 = .ok (.if_icmp .ne (6), 3)) (by decide) c2) ?_
      refine ai (p_aload_n (pc := 22) (k := 0) (by decide +kernel : decode k_R_read.2.1 22 = .ok (.aload_n 0, 1)) rfl rfl) ?_
      refine ai (p_aload_n (pc := 23) (k := 0) (by decide +kernel : decode k_R_read.2.1 23 = .ok (.aload_n 0, 1)) rfl rfl) ?_
      refine ai (r_getI (pc := 24) (by decide +kernel : decode k_R_read.2.1 24 = .ok (.getfield 276, 3)) lg_12_276 (by decide) (RC_0 hL).1) ?_
      have c3 := (RC_0 hL).1
      obtain ⟨m4, hm4, h⟩ := vb_some h
      have hL : RL m4 := by rw [hm4]; exact hL
      refine ai (p_putI (pc := 27) hm4 (by decide +kernel : decode k_R_read.2.1 27 = .ok (.putfield 283, 3)) lp_12_283 c3) ?_
      refine ai (r_iconst (pc := 30) (by decide +kernel : decode k_R_read.2.1 30 = .ok (.iconst 0, 1)) ic_0) ?_
      refine ai (e_istore_n (pc := 31) rfl (by decide +kernel : decode k_R_read.2.1 31 = .ok (.istore_n 1, 1)) rfl (by decide) rfl) ?_
      exact (ai (r_sub [1, 0] rfl) (R_read_32_run hL h))
set_option maxRecDepth 100000 in
set_option maxHeartbeats 4000000 in
theorem R_place_run {m m' : Mem} {r : Int32} (hL : RL m) (h : R_place m = some (r, m')) : Run k_R_place 0 [(0, .ref 0)] [] m (some (.int r)) m' ∧ RL m' := by
  unfold R_place at h
  refine ai (p_aload_n (pc := 0) (k := 0) (by decide +kernel : decode k_R_place.2.1 0 = .ok (.aload_n 0, 1)) rfl rfl) ?_
  refine ai (r_getI (pc := 1) (by decide +kernel : decode k_R_place.2.1 1 = .ok (.getfield 37, 3)) lg_12_37 (by decide) (RC_0 hL).1) ?_
  cases h
  exact ⟨r_iret rfl (by decide +kernel : decode k_R_place.2.1 4 = .ok (.ireturn, 1)), hL⟩
set_option maxRecDepth 100000 in
set_option maxHeartbeats 4000000 in
theorem R_named_76_run {n : Nat} {x1 : Int32} {m m' : Mem} {r : Int32} (hL : RL m) (h : R_named_76 n x1 m = some (r, m')) : Run k_R_named 76 [(0, .ref 0), (1, .int x1)] [] m (some (.int r)) m' ∧ RL m' := by
  induction n generalizing x1 m r m' with
  | zero => exact absurd h (by simp [R_named_76])
  | succ n ih =>
    rw [R_named_76.eq_2] at h
    refine ai (r_iload_n (pc := 76) (k := 1) (by decide +kernel : decode k_R_named.2.1 76 = .ok (.iload_n 1, 1)) rfl rfl) ?_
    refine ai (p_aload_n (pc := 77) (k := 0) (by decide +kernel : decode k_R_named.2.1 77 = .ok (.aload_n 0, 1)) rfl rfl) ?_
    refine ai (r_getI (pc := 78) (by decide +kernel : decode k_R_named.2.1 78 = .ok (.getfield 359, 3)) lg_12_359 (by decide) (RC_0 hL).1) ?_
    rcases ite_some h with ⟨c1, h⟩ | ⟨c1, h⟩
    · refine ai (r_icmp_ge_t (pc := 81) (tgt := 108) (by decide +kernel : decode k_R_named.2.1 81 = .ok (.if_icmp .ge (27), 3)) (by decide) c1) ?_
      refine ai (r_iconst (pc := 108) (by decide +kernel : decode k_R_named.2.1 108 = .ok (.iconst (-1), 1)) ic_m1) ?_
      cases h
      exact ⟨r_iret rfl (by decide +kernel : decode k_R_named.2.1 109 = .ok (.ireturn, 1)), hL⟩
    · refine ai (r_icmp_ge_f (pc := 81) 108 (by decide +kernel : decode k_R_named.2.1 81 = .ok (.if_icmp .ge (27), 3)) (by decide) c1) ?_
      refine ai (p_aload_n (pc := 84) (k := 0) (by decide +kernel : decode k_R_named.2.1 84 = .ok (.aload_n 0, 1)) rfl rfl) ?_
      refine ai (p_getr (pc := 85) (RR_1586_0 hL) (by decide +kernel : decode k_R_named.2.1 85 = .ok (.getfield 122, 3)) lg_12_122 (RC_0 hL).1) ?_
      refine ai (r_iload_n (pc := 88) (k := 1) (by decide +kernel : decode k_R_named.2.1 88 = .ok (.iload_n 1, 1)) rfl rfl) ?_
      obtain ⟨g2, h⟩ := gd_some h
      refine ai (p_lald (pc := 89) (by decide +kernel : decode k_R_named.2.1 89 = .ok (.laload, 1)) (RC_35 hL).1 (RC_35 hL).2 g2) ?_
      refine ai (p_aload_n (pc := 90) (k := 0) (by decide +kernel : decode k_R_named.2.1 90 = .ok (.aload_n 0, 1)) rfl rfl) ?_
      refine ai (p_getr (pc := 91) (RR_1544_0 hL) (by decide +kernel : decode k_R_named.2.1 91 = .ok (.getfield 30, 3)) lg_12_30 (RC_0 hL).1) ?_
      refine ai (r_iconst (pc := 94) (by decide +kernel : decode k_R_named.2.1 94 = .ok (.iconst 0, 1)) ic_0) ?_
      obtain ⟨g3, h⟩ := gd_some h
      refine ai (p_lald (pc := 95) (by decide +kernel : decode k_R_named.2.1 95 = .ok (.laload, 1)) (RC_6 hL).1 (RC_6 hL).2 g3) ?_
      refine ai (r_lcmp (pc := 96) (by decide +kernel : decode k_R_named.2.1 96 = .ok (.lcmp, 1))) ?_
      rcases ite_some h with ⟨c4, h⟩ | ⟨c4, h⟩
      · refine ai (r_if_ne_f (pc := 97) 102 (by decide +kernel : decode k_R_named.2.1 97 = .ok (.ifCond .ne (5), 3)) (by decide) c4) ?_
        refine ai (r_iload_n (pc := 100) (k := 1) (by decide +kernel : decode k_R_named.2.1 100 = .ok (.iload_n 1, 1)) rfl rfl) ?_
        cases h
        exact ⟨r_iret rfl (by decide +kernel : decode k_R_named.2.1 101 = .ok (.ireturn, 1)), hL⟩
      · refine ai (r_if_ne_t (pc := 97) (tgt := 102) (by decide +kernel : decode k_R_named.2.1 97 = .ok (.ifCond .ne (5), 3)) (by decide) c4) ?_
        obtain ⟨v5, hv5, h⟩ := vb_some h
        refine ai (e_iinc (pc := 102) (k := 1) hv5 ic_1 (by decide +kernel : decode k_R_named.2.1 102 = .ok (.iinc 1 (1), 3)) rfl (by decide) rfl) ?_
        refine ai (r_goto (pc := 105) (tgt := 76) (by decide +kernel : decode k_R_named.2.1 105 = .ok (.goto (-29), 3)) (by decide)) ?_
        exact (ai (r_sub [1, 0] rfl) (ih hL h))
set_option maxRecDepth 100000 in
set_option maxHeartbeats 4000000 in
theorem R_named_36_run {m m' : Mem} {r : Int32} (hL : RL m) (h : R_named_36 m = some (r, m')) : Run k_R_named 36 [(0, .ref 0)] [] m (some (.int r)) m' ∧ RL m' := by
  unfold R_named_36 at h
  refine ai (p_aload_n (pc := 36) (k := 0) (by decide +kernel : decode k_R_named.2.1 36 = .ok (.aload_n 0, 1)) rfl rfl) ?_
  refine ai (r_iconst (pc := 37) (by decide +kernel : decode k_R_named.2.1 37 = .ok (.iconst 0, 1)) ic_0) ?_
  have c1 := (RC_0 hL).1
  obtain ⟨m2, hm2, h⟩ := vb_some h
  have hL : RL m2 := by rw [hm2]; exact hL
  refine ai (p_putI (pc := 38) hm2 (by decide +kernel : decode k_R_named.2.1 38 = .ok (.putfield 276, 3)) lp_12_276 c1) ?_
  refine ai (p_aload_n (pc := 41) (k := 0) (by decide +kernel : decode k_R_named.2.1 41 = .ok (.aload_n 0, 1)) rfl rfl) ?_
  obtain ⟨r3, m4, hr3, h⟩ := bn_some h
  have q5 := R_cut_run hL hr3
  have c6 := (RC_0 hL).1
  have hL := q5.2
  refine ai (q_callV (pc := 42) (As := []) (st := []) (st2 := []) (b := 0) rfl rfl (by decide +kernel : decode k_R_named.2.1 42 = .ok (.invokevirtual 344, 3)) lc_12_344 mo_R_cut ⟨Nat.le_of_ble_eq_true rfl, Nat.le_of_ble_eq_true rfl⟩ (Nat.le_of_ble_eq_true rfl) (Nat.le_of_ble_eq_true rfl) c6 q5.1) ?_
  refine ai (p_aload_n (pc := 45) (k := 0) (by decide +kernel : decode k_R_named.2.1 45 = .ok (.aload_n 0, 1)) rfl rfl) ?_
  refine ai (r_getI (pc := 46) (by decide +kernel : decode k_R_named.2.1 46 = .ok (.getfield 292, 3)) lg_12_292 (by decide) (RC_0 hL).1) ?_
  refine ai (r_iconst (pc := 49) (by decide +kernel : decode k_R_named.2.1 49 = .ok (.iconst 2, 1)) ic_2) ?_
  rcases ite_some h with ⟨c7, h⟩ | ⟨c7, h⟩
  · refine ai (r_icmp_ne_f (pc := 50) 72 (by decide +kernel : decode k_R_named.2.1 50 = .ok (.if_icmp .ne (22), 3)) (by decide) c7) ?_
    refine ai (p_aload_n (pc := 53) (k := 0) (by decide +kernel : decode k_R_named.2.1 53 = .ok (.aload_n 0, 1)) rfl rfl) ?_
    refine ai (p_getr (pc := 54) (RR_1541_0 hL) (by decide +kernel : decode k_R_named.2.1 54 = .ok (.getfield 20, 3)) lg_12_20 (RC_0 hL).1) ?_
    refine ai (r_iconst (pc := 57) (by decide +kernel : decode k_R_named.2.1 57 = .ok (.iconst 0, 1)) ic_0) ?_
    obtain ⟨g8, h⟩ := gd_some h
    refine ai (p_iald (pc := 58) (by decide +kernel : decode k_R_named.2.1 58 = .ok (.iaload, 1)) (RC_3 hL).1 (RC_3 hL).2 g8) ?_
    refine ai (r_iconst (pc := 59) (by decide +kernel : decode k_R_named.2.1 59 = .ok (.iconst 1, 1)) ic_1) ?_
    rcases ite_some h with ⟨c9, h⟩ | ⟨c9, h⟩
    · refine ai (r_icmp_ne_f (pc := 60) 72 (by decide +kernel : decode k_R_named.2.1 60 = .ok (.if_icmp .ne (12), 3)) (by decide) c9) ?_
      refine ai (p_aload_n (pc := 63) (k := 0) (by decide +kernel : decode k_R_named.2.1 63 = .ok (.aload_n 0, 1)) rfl rfl) ?_
      refine ai (p_getr (pc := 64) (RR_1541_0 hL) (by decide +kernel : decode k_R_named.2.1 64 = .ok (.getfield 20, 3)) lg_12_20 (RC_0 hL).1) ?_
      refine ai (r_iconst (pc := 67) (by decide +kernel : decode k_R_named.2.1 67 = .ok (.iconst 1, 1)) ic_1) ?_
      obtain ⟨g10, h⟩ := gd_some h
      refine ai (p_iald (pc := 68) (by decide +kernel : decode k_R_named.2.1 68 = .ok (.iaload, 1)) (RC_3 hL).1 (RC_3 hL).2 g10) ?_
      rcases ite_some h with ⟨c11, h⟩ | ⟨c11, h⟩
      · refine ai (r_if_eq_t (pc := 69) (tgt := 74) (by decide +kernel : decode k_R_named.2.1 69 = .ok (.ifCond .eq (5), 3)) (by decide) c11) ?_
        refine ai (r_iconst (pc := 74) (by decide +kernel : decode k_R_named.2.1 74 = .ok (.iconst 0, 1)) ic_0) ?_
        refine ai (e_istore_n (pc := 75) rfl (by decide +kernel : decode k_R_named.2.1 75 = .ok (.istore_n 1, 1)) rfl (by decide) rfl) ?_
        exact (ai (r_sub [1, 0] rfl) (R_named_76_run hL h))
      · refine ai (r_if_eq_f (pc := 69) 74 (by decide +kernel : decode k_R_named.2.1 69 = .ok (.ifCond .eq (5), 3)) (by decide) c11) ?_
        refine ai (r_iconst (pc := 72) (by decide +kernel : decode k_R_named.2.1 72 = .ok (.iconst (-1), 1)) ic_m1) ?_
        cases h
        exact ⟨r_iret rfl (by decide +kernel : decode k_R_named.2.1 73 = .ok (.ireturn, 1)), hL⟩
    · refine ai (r_icmp_ne_t (pc := 60) (tgt := 72) (by decide +kernel : decode k_R_named.2.1 60 = .ok (.if_icmp .ne (12), 3)) (by decide) c9) ?_
      refine ai (r_iconst (pc := 72) (by decide +kernel : decode k_R_named.2.1 72 = .ok (.iconst (-1), 1)) ic_m1) ?_
      cases h
      exact ⟨r_iret rfl (by decide +kernel : decode k_R_named.2.1 73 = .ok (.ireturn, 1)), hL⟩
  · refine ai (r_icmp_ne_t (pc := 50) (tgt := 72) (by decide +kernel : decode k_R_named.2.1 50 = .ok (.if_icmp .ne (22), 3)) (by decide) c7) ?_
    refine ai (r_iconst (pc := 72) (by decide +kernel : decode k_R_named.2.1 72 = .ok (.iconst (-1), 1)) ic_m1) ?_
    cases h
    exact ⟨r_iret rfl (by decide +kernel : decode k_R_named.2.1 73 = .ok (.ireturn, 1)), hL⟩
set_option maxRecDepth 100000 in
set_option maxHeartbeats 4000000 in
theorem R_named_10_run {n : Nat} {x1 : Int32} {m m' : Mem} {r : Int32} (hL : RL m) (h : R_named_10 n x1 m = some (r, m')) : Run k_R_named 10 [(0, .ref 0), (1, .int x1)] [] m (some (.int r)) m' ∧ RL m' := by
  induction n generalizing x1 m r m' with
  | zero => exact absurd h (by simp [R_named_10])
  | succ n ih =>
    rw [R_named_10.eq_2] at h
    refine ai (r_iload_n (pc := 10) (k := 1) (by decide +kernel : decode k_R_named.2.1 10 = .ok (.iload_n 1, 1)) rfl rfl) ?_
    refine ai (p_aload_n (pc := 11) (k := 0) (by decide +kernel : decode k_R_named.2.1 11 = .ok (.aload_n 0, 1)) rfl rfl) ?_
    refine ai (r_getI (pc := 12) (by decide +kernel : decode k_R_named.2.1 12 = .ok (.getfield 283, 3)) lg_12_283 (by decide) (RC_0 hL).1) ?_
    rcases ite_some h with ⟨c1, h⟩ | ⟨c1, h⟩
    · refine ai (r_icmp_ge_t (pc := 15) (tgt := 36) (by decide +kernel : decode k_R_named.2.1 15 = .ok (.if_icmp .ge (21), 3)) (by decide) c1) ?_
      exact (ai (r_sub [0] rfl) (R_named_36_run hL h))
    · refine ai (r_icmp_ge_f (pc := 15) 36 (by decide +kernel : decode k_R_named.2.1 15 = .ok (.if_icmp .ge (21), 3)) (by decide) c1) ?_
      refine ai (p_aload_n (pc := 18) (k := 0) (by decide +kernel : decode k_R_named.2.1 18 = .ok (.aload_n 0, 1)) rfl rfl) ?_
      refine ai (p_getr (pc := 19) (RR_1539_0 hL) (by decide +kernel : decode k_R_named.2.1 19 = .ok (.getfield 17, 3)) lg_12_17 (RC_0 hL).1) ?_
      refine ai (r_iload_n (pc := 22) (k := 1) (by decide +kernel : decode k_R_named.2.1 22 = .ok (.iload_n 1, 1)) rfl rfl) ?_
      refine ai (p_aload_n (pc := 23) (k := 0) (by decide +kernel : decode k_R_named.2.1 23 = .ok (.aload_n 0, 1)) rfl rfl) ?_
      refine ai (p_getr (pc := 24) (RR_1537_0 hL) (by decide +kernel : decode k_R_named.2.1 24 = .ok (.getfield 13, 3)) lg_12_13 (RC_0 hL).1) ?_
      refine ai (r_iload_n (pc := 27) (k := 1) (by decide +kernel : decode k_R_named.2.1 27 = .ok (.iload_n 1, 1)) rfl rfl) ?_
      obtain ⟨g2, h⟩ := gd_some h
      refine ai (p_bald (pc := 28) (by decide +kernel : decode k_R_named.2.1 28 = .ok (.baload, 1)) (RC_1 hL).1 (RC_1 hL).2 g2) ?_
      obtain ⟨g3, h⟩ := gd_some h
      have c4 := (RC_2 hL).1
      have c5 := (RC_2 hL).2
      obtain ⟨m6, hm6, h⟩ := vb_some h
      have hL : RL m6 := by rw [hm6]; exact hL
      refine ai (p_bast (pc := 29) hm6 (by decide +kernel : decode k_R_named.2.1 29 = .ok (.bastore, 1)) c4 c5 g3) ?_
      obtain ⟨v7, hv7, h⟩ := vb_some h
      refine ai (e_iinc (pc := 30) (k := 1) hv7 ic_1 (by decide +kernel : decode k_R_named.2.1 30 = .ok (.iinc 1 (1), 3)) rfl (by decide) rfl) ?_
      refine ai (r_goto (pc := 33) (tgt := 10) (by decide +kernel : decode k_R_named.2.1 33 = .ok (.goto (-23), 3)) (by decide)) ?_
      exact (ai (r_sub [1, 0] rfl) (ih hL h))
set_option maxRecDepth 100000 in
set_option maxHeartbeats 4000000 in
theorem R_named_run {m m' : Mem} {r : Int32} (hL : RL m) (h : R_named m = some (r, m')) : Run k_R_named 0 [(0, .ref 0)] [] m (some (.int r)) m' ∧ RL m' := by
  unfold R_named at h
  refine ai (p_aload_n (pc := 0) (k := 0) (by decide +kernel : decode k_R_named.2.1 0 = .ok (.aload_n 0, 1)) rfl rfl) ?_
  refine ai (p_aload_n (pc := 1) (k := 0) (by decide +kernel : decode k_R_named.2.1 1 = .ok (.aload_n 0, 1)) rfl rfl) ?_
  refine ai (r_getI (pc := 2) (by decide +kernel : decode k_R_named.2.1 2 = .ok (.getfield 276, 3)) lg_12_276 (by decide) (RC_0 hL).1) ?_
  have c1 := (RC_0 hL).1
  obtain ⟨m2, hm2, h⟩ := vb_some h
  have hL : RL m2 := by rw [hm2]; exact hL
  refine ai (p_putI (pc := 5) hm2 (by decide +kernel : decode k_R_named.2.1 5 = .ok (.putfield 283, 3)) lp_12_283 c1) ?_
  refine ai (r_iconst (pc := 8) (by decide +kernel : decode k_R_named.2.1 8 = .ok (.iconst 0, 1)) ic_0) ?_
  refine ai (e_istore_n (pc := 9) rfl (by decide +kernel : decode k_R_named.2.1 9 = .ok (.istore_n 1, 1)) rfl (by decide) rfl) ?_
  exact (ai (r_sub [1, 0] rfl) (R_named_10_run hL h))
set_option maxRecDepth 100000 in
set_option maxHeartbeats 4000000 in
theorem R_town_run {m m' : Mem} {r : Int32} (hL : RL m) (h : R_town m = some (r, m')) : Run k_R_town 0 [(0, .ref 0)] [] m (some (.int r)) m' ∧ RL m' := by
  unfold R_town at h
  refine ai (p_aload_n (pc := 0) (k := 0) (by decide +kernel : decode k_R_town.2.1 0 = .ok (.aload_n 0, 1)) rfl rfl) ?_
  refine ai (r_getI (pc := 1) (by decide +kernel : decode k_R_town.2.1 1 = .ok (.getfield 421, 3)) lg_12_421 (by decide) (RC_0 hL).1) ?_
  refine ai (r_iconst (pc := 4) (by decide +kernel : decode k_R_town.2.1 4 = .ok (.iconst 5, 1)) ic_5) ?_
  rcases ite_some h with ⟨c1, h⟩ | ⟨c1, h⟩
  · refine ai (r_icmp_ne_f (pc := 5) 10 (by decide +kernel : decode k_R_town.2.1 5 = .ok (.if_icmp .ne (5), 3)) (by decide) c1) ?_
    refine ai (r_iconst (pc := 8) (by decide +kernel : decode k_R_town.2.1 8 = .ok (.iconst (-1), 1)) ic_m1) ?_
    cases h
    exact ⟨r_iret rfl (by decide +kernel : decode k_R_town.2.1 9 = .ok (.ireturn, 1)), hL⟩
  · refine ai (r_icmp_ne_t (pc := 5) (tgt := 10) (by decide +kernel : decode k_R_town.2.1 5 = .ok (.if_icmp .ne (5), 3)) (by decide) c1) ?_
    refine ai (p_aload_n (pc := 10) (k := 0) (by decide +kernel : decode k_R_town.2.1 10 = .ok (.aload_n 0, 1)) rfl rfl) ?_
    refine ai (r_dup (pc := 11) (by decide +kernel : decode k_R_town.2.1 11 = .ok (.dup, 1)) (rfl)) ?_
    refine ai (r_getI (pc := 12) (by decide +kernel : decode k_R_town.2.1 12 = .ok (.getfield 421, 3)) lg_12_421 (by decide) (RC_0 hL).1) ?_
    refine ai (r_iconst (pc := 15) (by decide +kernel : decode k_R_town.2.1 15 = .ok (.iconst 1, 1)) ic_1) ?_
    refine ai (r_iadd (pc := 16) (by decide +kernel : decode k_R_town.2.1 16 = .ok (.iadd, 1))) ?_
    have c2 := (RC_0 hL).1
    obtain ⟨m3, hm3, h⟩ := vb_some h
    have hL : RL m3 := by rw [hm3]; exact hL
    refine ai (p_putI (pc := 17) hm3 (by decide +kernel : decode k_R_town.2.1 17 = .ok (.putfield 421, 3)) lp_12_421 c2) ?_
    refine ai (p_aload_n (pc := 20) (k := 0) (by decide +kernel : decode k_R_town.2.1 20 = .ok (.aload_n 0, 1)) rfl rfl) ?_
    refine ai (r_getI (pc := 21) (by decide +kernel : decode k_R_town.2.1 21 = .ok (.getfield 421, 3)) lg_12_421 (by decide) (RC_0 hL).1) ?_
    refine ai (r_iconst (pc := 24) (by decide +kernel : decode k_R_town.2.1 24 = .ok (.iconst 1, 1)) ic_1) ?_
    refine ai (r_isub (pc := 25) (by decide +kernel : decode k_R_town.2.1 25 = .ok (.isub, 1))) ?_
    cases h
    exact ⟨r_iret rfl (by decide +kernel : decode k_R_town.2.1 26 = .ok (.ireturn, 1)), hL⟩
set_option maxRecDepth 100000 in
set_option maxHeartbeats 4000000 in
theorem R_isTown_run {x1 : Int32} {m m' : Mem} {r : Int32} (hL : RL m) (h : R_isTown x1 m = some (r, m')) : Run k_R_isTown 0 [(0, .ref 0), (1, .int x1)] [] m (some (.int r)) m' ∧ RL m' := by
  unfold R_isTown at h
  refine ai (r_iload_n (pc := 0) (k := 1) (by decide +kernel : decode k_R_isTown.2.1 0 = .ok (.iload_n 1, 1)) rfl rfl) ?_
  rcases ite_some h with ⟨c1, h⟩ | ⟨c1, h⟩
  · refine ai (r_if_lt_t (pc := 1) (tgt := 16) (by decide +kernel : decode k_R_isTown.2.1 1 = .ok (.ifCond .lt (15), 3)) (by decide) c1) ?_
    refine ai (r_iconst (pc := 16) (by decide +kernel : decode k_R_isTown.2.1 16 = .ok (.iconst 0, 1)) ic_0) ?_
    cases h
    exact ⟨r_zret (by decide) rfl (by decide +kernel : decode k_R_isTown.2.1 17 = .ok (.ireturn, 1)), hL⟩
  · refine ai (r_if_lt_f (pc := 1) 16 (by decide +kernel : decode k_R_isTown.2.1 1 = .ok (.ifCond .lt (15), 3)) (by decide) c1) ?_
    refine ai (r_iload_n (pc := 4) (k := 1) (by decide +kernel : decode k_R_isTown.2.1 4 = .ok (.iload_n 1, 1)) rfl rfl) ?_
    refine ai (p_aload_n (pc := 5) (k := 0) (by decide +kernel : decode k_R_isTown.2.1 5 = .ok (.aload_n 0, 1)) rfl rfl) ?_
    refine ai (r_getI (pc := 6) (by decide +kernel : decode k_R_isTown.2.1 6 = .ok (.getfield 421, 3)) lg_12_421 (by decide) (RC_0 hL).1) ?_
    rcases ite_some h with ⟨c2, h⟩ | ⟨c2, h⟩
    · refine ai (r_icmp_ge_t (pc := 9) (tgt := 16) (by decide +kernel : decode k_R_isTown.2.1 9 = .ok (.if_icmp .ge (7), 3)) (by decide) c2) ?_
      refine ai (r_iconst (pc := 16) (by decide +kernel : decode k_R_isTown.2.1 16 = .ok (.iconst 0, 1)) ic_0) ?_
      cases h
      exact ⟨r_zret (by decide) rfl (by decide +kernel : decode k_R_isTown.2.1 17 = .ok (.ireturn, 1)), hL⟩
    · refine ai (r_icmp_ge_f (pc := 9) 16 (by decide +kernel : decode k_R_isTown.2.1 9 = .ok (.if_icmp .ge (7), 3)) (by decide) c2) ?_
      refine ai (r_iconst (pc := 12) (by decide +kernel : decode k_R_isTown.2.1 12 = .ok (.iconst 1, 1)) ic_1) ?_
      refine ai (r_goto (pc := 13) (tgt := 17) (by decide +kernel : decode k_R_isTown.2.1 13 = .ok (.goto (4), 3)) (by decide)) ?_
      cases h
      exact ⟨r_zret (by decide) rfl (by decide +kernel : decode k_R_isTown.2.1 17 = .ok (.ireturn, 1)), hL⟩
set_option maxRecDepth 100000 in
set_option maxHeartbeats 4000000 in
theorem R_in_run {x0 : Int32} {x1 : Int32} {x2 : Int32} {m : Mem} {r : Int32} (h : R_in x0 x1 x2 = some r) : Run k_R_in 0 [(0, .int x0), (1, .int x1), (2, .int x2)] [] m (some (.int r)) m := by
  unfold R_in at h
  refine (r_iload_n (pc := 0) (k := 0) (by decide +kernel : decode k_R_in.2.1 0 = .ok (.iload_n 0, 1)) rfl rfl) ?_
  refine (r_iload_n (pc := 1) (k := 1) (by decide +kernel : decode k_R_in.2.1 1 = .ok (.iload_n 1, 1)) rfl rfl) ?_
  rcases ite_some h with ⟨c1, h⟩ | ⟨c1, h⟩
  · refine (r_icmp_lt_t (pc := 2) (tgt := 14) (by decide +kernel : decode k_R_in.2.1 2 = .ok (.if_icmp .lt (12), 3)) (by decide) c1) ?_
    refine (r_iconst (pc := 14) (by decide +kernel : decode k_R_in.2.1 14 = .ok (.iconst 0, 1)) ic_0) ?_
    cases h
    exact r_zret (by decide) rfl (by decide +kernel : decode k_R_in.2.1 15 = .ok (.ireturn, 1))
  · refine (r_icmp_lt_f (pc := 2) 14 (by decide +kernel : decode k_R_in.2.1 2 = .ok (.if_icmp .lt (12), 3)) (by decide) c1) ?_
    refine (r_iload_n (pc := 5) (k := 0) (by decide +kernel : decode k_R_in.2.1 5 = .ok (.iload_n 0, 1)) rfl rfl) ?_
    refine (r_iload_n (pc := 6) (k := 2) (by decide +kernel : decode k_R_in.2.1 6 = .ok (.iload_n 2, 1)) rfl rfl) ?_
    rcases ite_some h with ⟨c2, h⟩ | ⟨c2, h⟩
    · refine (r_icmp_gt_t (pc := 7) (tgt := 14) (by decide +kernel : decode k_R_in.2.1 7 = .ok (.if_icmp .gt (7), 3)) (by decide) c2) ?_
      refine (r_iconst (pc := 14) (by decide +kernel : decode k_R_in.2.1 14 = .ok (.iconst 0, 1)) ic_0) ?_
      cases h
      exact r_zret (by decide) rfl (by decide +kernel : decode k_R_in.2.1 15 = .ok (.ireturn, 1))
    · refine (r_icmp_gt_f (pc := 7) 14 (by decide +kernel : decode k_R_in.2.1 7 = .ok (.if_icmp .gt (7), 3)) (by decide) c2) ?_
      refine (r_iconst (pc := 10) (by decide +kernel : decode k_R_in.2.1 10 = .ok (.iconst 1, 1)) ic_1) ?_
      refine (r_goto (pc := 11) (tgt := 15) (by decide +kernel : decode k_R_in.2.1 11 = .ok (.goto (4), 3)) (by decide)) ?_
      cases h
      exact r_zret (by decide) rfl (by decide +kernel : decode k_R_in.2.1 15 = .ok (.ireturn, 1))
set_option maxRecDepth 100000 in
set_option maxHeartbeats 4000000 in
theorem R_firm_run {x1 : Int32} {x2 : Int32} {m m' : Mem} {r : Int32} (hL : RL m) (h : R_firm x1 x2 m = some (r, m')) : Run k_R_firm 0 [(0, .ref 0), (1, .int x1), (2, .int x2)] [] m (some (.int r)) m' ∧ RL m' := by
  unfold R_firm at h
  refine ai (p_aload_n (pc := 0) (k := 0) (by decide +kernel : decode k_R_firm.2.1 0 = .ok (.aload_n 0, 1)) rfl rfl) ?_
  refine ai (r_getI (pc := 1) (by decide +kernel : decode k_R_firm.2.1 1 = .ok (.getfield 424, 3)) lg_12_424 (by decide) (RC_0 hL).1) ?_
  refine ai (r_bipush (pc := 4) (by decide +kernel : decode k_R_firm.2.1 4 = .ok (.bipush (8), 2)) (by decide : _ = (8 : Int32))) ?_
  rcases ite_some h with ⟨c1, h⟩ | ⟨c1, h⟩
  · refine ai (r_icmp_eq_t (pc := 6) (tgt := 27) (by decide +kernel : decode k_R_firm.2.1 6 = .ok (.if_icmp .eq (21), 3)) (by decide) c1) ?_
    refine ai (r_iconst (pc := 27) (by decide +kernel : decode k_R_firm.2.1 27 = .ok (.iconst (-1), 1)) ic_m1) ?_
    cases h
    exact ⟨r_iret rfl (by decide +kernel : decode k_R_firm.2.1 28 = .ok (.ireturn, 1)), hL⟩
  · refine ai (r_icmp_eq_f (pc := 6) 27 (by decide +kernel : decode k_R_firm.2.1 6 = .ok (.if_icmp .eq (21), 3)) (by decide) c1) ?_
    refine ai (p_aload_n (pc := 9) (k := 0) (by decide +kernel : decode k_R_firm.2.1 9 = .ok (.aload_n 0, 1)) rfl rfl) ?_
    refine ai (r_iload_n (pc := 10) (k := 1) (by decide +kernel : decode k_R_firm.2.1 10 = .ok (.iload_n 1, 1)) rfl rfl) ?_
    obtain ⟨r2, m3, hr2, h⟩ := bn_some h
    have q4 := R_isTown_run hL hr2
    have c5 := (RC_0 hL).1
    have hL := q4.2
    refine ai (q_callV (pc := 11) (As := [.int x1]) (st := []) (st2 := [.int r2]) (b := 0) rfl rfl (by decide +kernel : decode k_R_firm.2.1 11 = .ok (.invokevirtual 430, 3)) lc_12_430 mo_R_isTown ⟨Nat.le_of_ble_eq_true rfl, Nat.le_of_ble_eq_true rfl⟩ (Nat.le_of_ble_eq_true rfl) (Nat.le_of_ble_eq_true rfl) c5 q4.1) ?_
    rcases ite_some h with ⟨c6, h⟩ | ⟨c6, h⟩
    · refine ai (r_if_eq_t (pc := 14) (tgt := 27) (by decide +kernel : decode k_R_firm.2.1 14 = .ok (.ifCond .eq (13), 3)) (by decide) c6) ?_
      refine ai (r_iconst (pc := 27) (by decide +kernel : decode k_R_firm.2.1 27 = .ok (.iconst (-1), 1)) ic_m1) ?_
      cases h
      exact ⟨r_iret rfl (by decide +kernel : decode k_R_firm.2.1 28 = .ok (.ireturn, 1)), hL⟩
    · refine ai (r_if_eq_f (pc := 14) 27 (by decide +kernel : decode k_R_firm.2.1 14 = .ok (.ifCond .eq (13), 3)) (by decide) c6) ?_
      refine ai (r_iload_n (pc := 17) (k := 2) (by decide +kernel : decode k_R_firm.2.1 17 = .ok (.iload_n 2, 1)) rfl rfl) ?_
      refine ai (r_iconst (pc := 18) (by decide +kernel : decode k_R_firm.2.1 18 = .ok (.iconst 0, 1)) ic_0) ?_
      refine ai (r_bipush (pc := 19) (by decide +kernel : decode k_R_firm.2.1 19 = .ok (.bipush (7), 2)) (by decide : _ = (7 : Int32))) ?_
      obtain ⟨r7, hr7, h⟩ := bp_some h
      refine ai (q_callS (pc := 21) (As := [.int x2, .int 0, .int 7]) (st := []) (st2 := [.int r7]) rfl rfl (by decide +kernel : decode k_R_firm.2.1 21 = .ok (.invokestatic 433, 3)) lc_12_433 mo_R_in ⟨Nat.le_of_ble_eq_true rfl, Nat.le_of_ble_eq_true rfl⟩ (Nat.le_of_ble_eq_true rfl) (Nat.le_of_ble_eq_true rfl) (R_in_run hr7)) ?_
      rcases ite_some h with ⟨c8, h⟩ | ⟨c8, h⟩
      · refine ai (r_if_ne_f (pc := 24) 29 (by decide +kernel : decode k_R_firm.2.1 24 = .ok (.ifCond .ne (5), 3)) (by decide) c8) ?_
        refine ai (r_iconst (pc := 27) (by decide +kernel : decode k_R_firm.2.1 27 = .ok (.iconst (-1), 1)) ic_m1) ?_
        cases h
        exact ⟨r_iret rfl (by decide +kernel : decode k_R_firm.2.1 28 = .ok (.ireturn, 1)), hL⟩
      · refine ai (r_if_ne_t (pc := 24) (tgt := 29) (by decide +kernel : decode k_R_firm.2.1 24 = .ok (.ifCond .ne (5), 3)) (by decide) c8) ?_
        refine ai (p_aload_n (pc := 29) (k := 0) (by decide +kernel : decode k_R_firm.2.1 29 = .ok (.aload_n 0, 1)) rfl rfl) ?_
        refine ai (p_getr (pc := 30) (RR_1593_0 hL) (by decide +kernel : decode k_R_firm.2.1 30 = .ok (.getfield 128, 3)) lg_12_128 (RC_0 hL).1) ?_
        refine ai (p_aload_n (pc := 33) (k := 0) (by decide +kernel : decode k_R_firm.2.1 33 = .ok (.aload_n 0, 1)) rfl rfl) ?_
        refine ai (r_getI (pc := 34) (by decide +kernel : decode k_R_firm.2.1 34 = .ok (.getfield 424, 3)) lg_12_424 (by decide) (RC_0 hL).1) ?_
        refine ai (r_iload_n (pc := 37) (k := 1) (by decide +kernel : decode k_R_firm.2.1 37 = .ok (.iload_n 1, 1)) rfl rfl) ?_
        obtain ⟨g9, h⟩ := gd_some h
        have c10 := (RC_37 hL).1
        have c11 := (RC_37 hL).2
        obtain ⟨m12, hm12, h⟩ := vb_some h
        have hL : RL m12 := by rw [hm12]; exact hL
        refine ai (p_iast (pc := 38) hm12 (by decide +kernel : decode k_R_firm.2.1 38 = .ok (.iastore, 1)) c10 c11 g9) ?_
        refine ai (p_aload_n (pc := 39) (k := 0) (by decide +kernel : decode k_R_firm.2.1 39 = .ok (.aload_n 0, 1)) rfl rfl) ?_
        refine ai (p_getr (pc := 40) (RR_1594_0 hL) (by decide +kernel : decode k_R_firm.2.1 40 = .ok (.getfield 131, 3)) lg_12_131 (RC_0 hL).1) ?_
        refine ai (p_aload_n (pc := 43) (k := 0) (by decide +kernel : decode k_R_firm.2.1 43 = .ok (.aload_n 0, 1)) rfl rfl) ?_
        refine ai (r_getI (pc := 44) (by decide +kernel : decode k_R_firm.2.1 44 = .ok (.getfield 424, 3)) lg_12_424 (by decide) (RC_0 hL).1) ?_
        refine ai (r_iload_n (pc := 47) (k := 2) (by decide +kernel : decode k_R_firm.2.1 47 = .ok (.iload_n 2, 1)) rfl rfl) ?_
        obtain ⟨g13, h⟩ := gd_some h
        have c14 := (RC_38 hL).1
        have c15 := (RC_38 hL).2
        obtain ⟨m16, hm16, h⟩ := vb_some h
        have hL : RL m16 := by rw [hm16]; exact hL
        refine ai (p_iast (pc := 48) hm16 (by decide +kernel : decode k_R_firm.2.1 48 = .ok (.iastore, 1)) c14 c15 g13) ?_
        refine ai (p_aload_n (pc := 49) (k := 0) (by decide +kernel : decode k_R_firm.2.1 49 = .ok (.aload_n 0, 1)) rfl rfl) ?_
        refine ai (r_dup (pc := 50) (by decide +kernel : decode k_R_firm.2.1 50 = .ok (.dup, 1)) (rfl)) ?_
        refine ai (r_getI (pc := 51) (by decide +kernel : decode k_R_firm.2.1 51 = .ok (.getfield 424, 3)) lg_12_424 (by decide) (RC_0 hL).1) ?_
        refine ai (r_iconst (pc := 54) (by decide +kernel : decode k_R_firm.2.1 54 = .ok (.iconst 1, 1)) ic_1) ?_
        refine ai (r_iadd (pc := 55) (by decide +kernel : decode k_R_firm.2.1 55 = .ok (.iadd, 1))) ?_
        have c17 := (RC_0 hL).1
        obtain ⟨m18, hm18, h⟩ := vb_some h
        have hL : RL m18 := by rw [hm18]; exact hL
        refine ai (p_putI (pc := 56) hm18 (by decide +kernel : decode k_R_firm.2.1 56 = .ok (.putfield 424, 3)) lp_12_424 c17) ?_
        refine ai (p_aload_n (pc := 59) (k := 0) (by decide +kernel : decode k_R_firm.2.1 59 = .ok (.aload_n 0, 1)) rfl rfl) ?_
        obtain ⟨r19, m20, hr19, h⟩ := bn_some h
        have q21 := R_changed_run hL hr19
        have c22 := (RC_0 hL).1
        have hL := q21.2
        refine ai (q_callV (pc := 60) (As := []) (st := []) (st2 := []) (b := 0) rfl rfl (by decide +kernel : decode k_R_firm.2.1 60 = .ok (.invokevirtual 437, 3)) lc_12_437 mo_R_changed ⟨Nat.le_of_ble_eq_true rfl, Nat.le_of_ble_eq_true rfl⟩ (Nat.le_of_ble_eq_true rfl) (Nat.le_of_ble_eq_true rfl) c22 q21.1) ?_
        refine ai (p_aload_n (pc := 63) (k := 0) (by decide +kernel : decode k_R_firm.2.1 63 = .ok (.aload_n 0, 1)) rfl rfl) ?_
        refine ai (r_getI (pc := 64) (by decide +kernel : decode k_R_firm.2.1 64 = .ok (.getfield 424, 3)) lg_12_424 (by decide) (RC_0 hL).1) ?_
        refine ai (r_iconst (pc := 67) (by decide +kernel : decode k_R_firm.2.1 67 = .ok (.iconst 1, 1)) ic_1) ?_
        refine ai (r_isub (pc := 68) (by decide +kernel : decode k_R_firm.2.1 68 = .ok (.isub, 1))) ?_
        cases h
        exact ⟨r_iret rfl (by decide +kernel : decode k_R_firm.2.1 69 = .ok (.ireturn, 1)), hL⟩
set_option maxRecDepth 100000 in
set_option maxHeartbeats 4000000 in
theorem R_isFirm_run {x1 : Int32} {m m' : Mem} {r : Int32} (hL : RL m) (h : R_isFirm x1 m = some (r, m')) : Run k_R_isFirm 0 [(0, .ref 0), (1, .int x1)] [] m (some (.int r)) m' ∧ RL m' := by
  unfold R_isFirm at h
  refine ai (r_iload_n (pc := 0) (k := 1) (by decide +kernel : decode k_R_isFirm.2.1 0 = .ok (.iload_n 1, 1)) rfl rfl) ?_
  rcases ite_some h with ⟨c1, h⟩ | ⟨c1, h⟩
  · refine ai (r_if_lt_t (pc := 1) (tgt := 16) (by decide +kernel : decode k_R_isFirm.2.1 1 = .ok (.ifCond .lt (15), 3)) (by decide) c1) ?_
    refine ai (r_iconst (pc := 16) (by decide +kernel : decode k_R_isFirm.2.1 16 = .ok (.iconst 0, 1)) ic_0) ?_
    cases h
    exact ⟨r_zret (by decide) rfl (by decide +kernel : decode k_R_isFirm.2.1 17 = .ok (.ireturn, 1)), hL⟩
  · refine ai (r_if_lt_f (pc := 1) 16 (by decide +kernel : decode k_R_isFirm.2.1 1 = .ok (.ifCond .lt (15), 3)) (by decide) c1) ?_
    refine ai (r_iload_n (pc := 4) (k := 1) (by decide +kernel : decode k_R_isFirm.2.1 4 = .ok (.iload_n 1, 1)) rfl rfl) ?_
    refine ai (p_aload_n (pc := 5) (k := 0) (by decide +kernel : decode k_R_isFirm.2.1 5 = .ok (.aload_n 0, 1)) rfl rfl) ?_
    refine ai (r_getI (pc := 6) (by decide +kernel : decode k_R_isFirm.2.1 6 = .ok (.getfield 424, 3)) lg_12_424 (by decide) (RC_0 hL).1) ?_
    rcases ite_some h with ⟨c2, h⟩ | ⟨c2, h⟩
    · refine ai (r_icmp_ge_t (pc := 9) (tgt := 16) (by decide +kernel : decode k_R_isFirm.2.1 9 = .ok (.if_icmp .ge (7), 3)) (by decide) c2) ?_
      refine ai (r_iconst (pc := 16) (by decide +kernel : decode k_R_isFirm.2.1 16 = .ok (.iconst 0, 1)) ic_0) ?_
      cases h
      exact ⟨r_zret (by decide) rfl (by decide +kernel : decode k_R_isFirm.2.1 17 = .ok (.ireturn, 1)), hL⟩
    · refine ai (r_icmp_ge_f (pc := 9) 16 (by decide +kernel : decode k_R_isFirm.2.1 9 = .ok (.if_icmp .ge (7), 3)) (by decide) c2) ?_
      refine ai (r_iconst (pc := 12) (by decide +kernel : decode k_R_isFirm.2.1 12 = .ok (.iconst 1, 1)) ic_1) ?_
      refine ai (r_goto (pc := 13) (tgt := 17) (by decide +kernel : decode k_R_isFirm.2.1 13 = .ok (.goto (4), 3)) (by decide)) ?_
      cases h
      exact ⟨r_zret (by decide) rfl (by decide +kernel : decode k_R_isFirm.2.1 17 = .ok (.ireturn, 1)), hL⟩
set_option maxRecDepth 100000 in
set_option maxHeartbeats 4000000 in
theorem R_person_run {x1 : Int32} {x2 : Int32} {x3 : Int32} {m m' : Mem} {r : Int32} (hL : RL m) (h : R_person x1 x2 x3 m = some (r, m')) : Run k_R_person 0 [(0, .ref 0), (1, .int x1), (2, .int x2), (3, .int x3)] [] m (some (.int r)) m' ∧ RL m' := by
  unfold R_person at h
  refine ai (p_aload_n (pc := 0) (k := 0) (by decide +kernel : decode k_R_person.2.1 0 = .ok (.aload_n 0, 1)) rfl rfl) ?_
  refine ai (r_getI (pc := 1) (by decide +kernel : decode k_R_person.2.1 1 = .ok (.getfield 427, 3)) lg_12_427 (by decide) (RC_0 hL).1) ?_
  refine ai (r_bipush (pc := 4) (by decide +kernel : decode k_R_person.2.1 4 = .ok (.bipush (10), 2)) (by decide : _ = (10 : Int32))) ?_
  rcases ite_some h with ⟨c1, h⟩ | ⟨c1, h⟩
  · refine ai (r_icmp_eq_t (pc := 6) (tgt := 38) (by decide +kernel : decode k_R_person.2.1 6 = .ok (.if_icmp .eq (32), 3)) (by decide) c1) ?_
    refine ai (r_iconst (pc := 38) (by decide +kernel : decode k_R_person.2.1 38 = .ok (.iconst (-1), 1)) ic_m1) ?_
    cases h
    exact ⟨r_iret rfl (by decide +kernel : decode k_R_person.2.1 39 = .ok (.ireturn, 1)), hL⟩
  · refine ai (r_icmp_eq_f (pc := 6) 38 (by decide +kernel : decode k_R_person.2.1 6 = .ok (.if_icmp .eq (32), 3)) (by decide) c1) ?_
    refine ai (p_aload_n (pc := 9) (k := 0) (by decide +kernel : decode k_R_person.2.1 9 = .ok (.aload_n 0, 1)) rfl rfl) ?_
    refine ai (r_iload_n (pc := 10) (k := 1) (by decide +kernel : decode k_R_person.2.1 10 = .ok (.iload_n 1, 1)) rfl rfl) ?_
    obtain ⟨r2, m3, hr2, h⟩ := bn_some h
    have q4 := R_isFirm_run hL hr2
    have c5 := (RC_0 hL).1
    have hL := q4.2
    refine ai (q_callV (pc := 11) (As := [.int x1]) (st := []) (st2 := [.int r2]) (b := 0) rfl rfl (by decide +kernel : decode k_R_person.2.1 11 = .ok (.invokevirtual 440, 3)) lc_12_440 mo_R_isFirm ⟨Nat.le_of_ble_eq_true rfl, Nat.le_of_ble_eq_true rfl⟩ (Nat.le_of_ble_eq_true rfl) (Nat.le_of_ble_eq_true rfl) c5 q4.1) ?_
    rcases ite_some h with ⟨c6, h⟩ | ⟨c6, h⟩
    · refine ai (r_if_eq_t (pc := 14) (tgt := 38) (by decide +kernel : decode k_R_person.2.1 14 = .ok (.ifCond .eq (24), 3)) (by decide) c6) ?_
      refine ai (r_iconst (pc := 38) (by decide +kernel : decode k_R_person.2.1 38 = .ok (.iconst (-1), 1)) ic_m1) ?_
      cases h
      exact ⟨r_iret rfl (by decide +kernel : decode k_R_person.2.1 39 = .ok (.ireturn, 1)), hL⟩
    · refine ai (r_if_eq_f (pc := 14) 38 (by decide +kernel : decode k_R_person.2.1 14 = .ok (.ifCond .eq (24), 3)) (by decide) c6) ?_
      refine ai (r_iload_n (pc := 17) (k := 2) (by decide +kernel : decode k_R_person.2.1 17 = .ok (.iload_n 2, 1)) rfl rfl) ?_
      refine ai (r_iconst (pc := 18) (by decide +kernel : decode k_R_person.2.1 18 = .ok (.iconst 0, 1)) ic_0) ?_
      refine ai (r_sipush (pc := 19) (by decide +kernel : decode k_R_person.2.1 19 = .ok (.sipush (255), 3)) (by decide : _ = (255 : Int32))) ?_
      obtain ⟨r7, hr7, h⟩ := bp_some h
      refine ai (q_callS (pc := 22) (As := [.int x2, .int 0, .int 255]) (st := []) (st2 := [.int r7]) rfl rfl (by decide +kernel : decode k_R_person.2.1 22 = .ok (.invokestatic 433, 3)) lc_12_433 mo_R_in ⟨Nat.le_of_ble_eq_true rfl, Nat.le_of_ble_eq_true rfl⟩ (Nat.le_of_ble_eq_true rfl) (Nat.le_of_ble_eq_true rfl) (R_in_run hr7)) ?_
      rcases ite_some h with ⟨c8, h⟩ | ⟨c8, h⟩
      · refine ai (r_if_eq_t (pc := 25) (tgt := 38) (by decide +kernel : decode k_R_person.2.1 25 = .ok (.ifCond .eq (13), 3)) (by decide) c8) ?_
        refine ai (r_iconst (pc := 38) (by decide +kernel : decode k_R_person.2.1 38 = .ok (.iconst (-1), 1)) ic_m1) ?_
        cases h
        exact ⟨r_iret rfl (by decide +kernel : decode k_R_person.2.1 39 = .ok (.ireturn, 1)), hL⟩
      · refine ai (r_if_eq_f (pc := 25) 38 (by decide +kernel : decode k_R_person.2.1 25 = .ok (.ifCond .eq (13), 3)) (by decide) c8) ?_
        refine ai (r_iload_n (pc := 28) (k := 3) (by decide +kernel : decode k_R_person.2.1 28 = .ok (.iload_n 3, 1)) rfl rfl) ?_
        refine ai (r_iconst (pc := 29) (by decide +kernel : decode k_R_person.2.1 29 = .ok (.iconst 0, 1)) ic_0) ?_
        refine ai (r_bipush (pc := 30) (by decide +kernel : decode k_R_person.2.1 30 = .ok (.bipush (40), 2)) (by decide : _ = (40 : Int32))) ?_
        obtain ⟨r9, hr9, h⟩ := bp_some h
        refine ai (q_callS (pc := 32) (As := [.int x3, .int 0, .int 40]) (st := []) (st2 := [.int r9]) rfl rfl (by decide +kernel : decode k_R_person.2.1 32 = .ok (.invokestatic 433, 3)) lc_12_433 mo_R_in ⟨Nat.le_of_ble_eq_true rfl, Nat.le_of_ble_eq_true rfl⟩ (Nat.le_of_ble_eq_true rfl) (Nat.le_of_ble_eq_true rfl) (R_in_run hr9)) ?_
        rcases ite_some h with ⟨c10, h⟩ | ⟨c10, h⟩
        · refine ai (r_if_ne_f (pc := 35) 40 (by decide +kernel : decode k_R_person.2.1 35 = .ok (.ifCond .ne (5), 3)) (by decide) c10) ?_
          refine ai (r_iconst (pc := 38) (by decide +kernel : decode k_R_person.2.1 38 = .ok (.iconst (-1), 1)) ic_m1) ?_
          cases h
          exact ⟨r_iret rfl (by decide +kernel : decode k_R_person.2.1 39 = .ok (.ireturn, 1)), hL⟩
        · refine ai (r_if_ne_t (pc := 35) (tgt := 40) (by decide +kernel : decode k_R_person.2.1 35 = .ok (.ifCond .ne (5), 3)) (by decide) c10) ?_
          refine ai (p_aload_n (pc := 40) (k := 0) (by decide +kernel : decode k_R_person.2.1 40 = .ok (.aload_n 0, 1)) rfl rfl) ?_
          refine ai (p_getr (pc := 41) (RR_1596_0 hL) (by decide +kernel : decode k_R_person.2.1 41 = .ok (.getfield 134, 3)) lg_12_134 (RC_0 hL).1) ?_
          refine ai (p_aload_n (pc := 44) (k := 0) (by decide +kernel : decode k_R_person.2.1 44 = .ok (.aload_n 0, 1)) rfl rfl) ?_
          refine ai (r_getI (pc := 45) (by decide +kernel : decode k_R_person.2.1 45 = .ok (.getfield 427, 3)) lg_12_427 (by decide) (RC_0 hL).1) ?_
          refine ai (r_iload_n (pc := 48) (k := 1) (by decide +kernel : decode k_R_person.2.1 48 = .ok (.iload_n 1, 1)) rfl rfl) ?_
          obtain ⟨g11, h⟩ := gd_some h
          have c12 := (RC_39 hL).1
          have c13 := (RC_39 hL).2
          obtain ⟨m14, hm14, h⟩ := vb_some h
          have hL : RL m14 := by rw [hm14]; exact hL
          refine ai (p_iast (pc := 49) hm14 (by decide +kernel : decode k_R_person.2.1 49 = .ok (.iastore, 1)) c12 c13 g11) ?_
          refine ai (p_aload_n (pc := 50) (k := 0) (by decide +kernel : decode k_R_person.2.1 50 = .ok (.aload_n 0, 1)) rfl rfl) ?_
          refine ai (p_getr (pc := 51) (RR_1597_0 hL) (by decide +kernel : decode k_R_person.2.1 51 = .ok (.getfield 137, 3)) lg_12_137 (RC_0 hL).1) ?_
          refine ai (p_aload_n (pc := 54) (k := 0) (by decide +kernel : decode k_R_person.2.1 54 = .ok (.aload_n 0, 1)) rfl rfl) ?_
          refine ai (r_getI (pc := 55) (by decide +kernel : decode k_R_person.2.1 55 = .ok (.getfield 427, 3)) lg_12_427 (by decide) (RC_0 hL).1) ?_
          refine ai (r_iload_n (pc := 58) (k := 2) (by decide +kernel : decode k_R_person.2.1 58 = .ok (.iload_n 2, 1)) rfl rfl) ?_
          obtain ⟨g15, h⟩ := gd_some h
          have c16 := (RC_40 hL).1
          have c17 := (RC_40 hL).2
          obtain ⟨m18, hm18, h⟩ := vb_some h
          have hL : RL m18 := by rw [hm18]; exact hL
          refine ai (p_iast (pc := 59) hm18 (by decide +kernel : decode k_R_person.2.1 59 = .ok (.iastore, 1)) c16 c17 g15) ?_
          refine ai (p_aload_n (pc := 60) (k := 0) (by decide +kernel : decode k_R_person.2.1 60 = .ok (.aload_n 0, 1)) rfl rfl) ?_
          refine ai (p_getr (pc := 61) (RR_1598_0 hL) (by decide +kernel : decode k_R_person.2.1 61 = .ok (.getfield 140, 3)) lg_12_140 (RC_0 hL).1) ?_
          refine ai (p_aload_n (pc := 64) (k := 0) (by decide +kernel : decode k_R_person.2.1 64 = .ok (.aload_n 0, 1)) rfl rfl) ?_
          refine ai (r_getI (pc := 65) (by decide +kernel : decode k_R_person.2.1 65 = .ok (.getfield 427, 3)) lg_12_427 (by decide) (RC_0 hL).1) ?_
          refine ai (r_iload_n (pc := 68) (k := 3) (by decide +kernel : decode k_R_person.2.1 68 = .ok (.iload_n 3, 1)) rfl rfl) ?_
          obtain ⟨g19, h⟩ := gd_some h
          have c20 := (RC_41 hL).1
          have c21 := (RC_41 hL).2
          obtain ⟨m22, hm22, h⟩ := vb_some h
          have hL : RL m22 := by rw [hm22]; exact hL
          refine ai (p_iast (pc := 69) hm22 (by decide +kernel : decode k_R_person.2.1 69 = .ok (.iastore, 1)) c20 c21 g19) ?_
          refine ai (p_aload_n (pc := 70) (k := 0) (by decide +kernel : decode k_R_person.2.1 70 = .ok (.aload_n 0, 1)) rfl rfl) ?_
          refine ai (r_dup (pc := 71) (by decide +kernel : decode k_R_person.2.1 71 = .ok (.dup, 1)) (rfl)) ?_
          refine ai (r_getI (pc := 72) (by decide +kernel : decode k_R_person.2.1 72 = .ok (.getfield 427, 3)) lg_12_427 (by decide) (RC_0 hL).1) ?_
          refine ai (r_iconst (pc := 75) (by decide +kernel : decode k_R_person.2.1 75 = .ok (.iconst 1, 1)) ic_1) ?_
          refine ai (r_iadd (pc := 76) (by decide +kernel : decode k_R_person.2.1 76 = .ok (.iadd, 1))) ?_
          have c23 := (RC_0 hL).1
          obtain ⟨m24, hm24, h⟩ := vb_some h
          have hL : RL m24 := by rw [hm24]; exact hL
          refine ai (p_putI (pc := 77) hm24 (by decide +kernel : decode k_R_person.2.1 77 = .ok (.putfield 427, 3)) lp_12_427 c23) ?_
          refine ai (p_aload_n (pc := 80) (k := 0) (by decide +kernel : decode k_R_person.2.1 80 = .ok (.aload_n 0, 1)) rfl rfl) ?_
          refine ai (r_getI (pc := 81) (by decide +kernel : decode k_R_person.2.1 81 = .ok (.getfield 427, 3)) lg_12_427 (by decide) (RC_0 hL).1) ?_
          refine ai (r_iconst (pc := 84) (by decide +kernel : decode k_R_person.2.1 84 = .ok (.iconst 1, 1)) ic_1) ?_
          refine ai (r_isub (pc := 85) (by decide +kernel : decode k_R_person.2.1 85 = .ok (.isub, 1))) ?_
          cases h
          exact ⟨r_iret rfl (by decide +kernel : decode k_R_person.2.1 86 = .ok (.ireturn, 1)), hL⟩
set_option maxRecDepth 100000 in
set_option maxHeartbeats 4000000 in
theorem R_marks_run {x1 : Int32} {x2 : Int32} {m m' : Mem} {r : Int32} (hL : RL m) (h : R_marks x1 x2 m = some (r, m')) : Run k_R_marks 0 [(0, .ref 0), (1, .int x1), (2, .int x2)] [] m (some (.int r)) m' ∧ RL m' := by
  unfold R_marks at h
  refine ai (r_iload_n (pc := 0) (k := 1) (by decide +kernel : decode k_R_marks.2.1 0 = .ok (.iload_n 1, 1)) rfl rfl) ?_
  refine ai (r_iconst (pc := 1) (by decide +kernel : decode k_R_marks.2.1 1 = .ok (.iconst 0, 1)) ic_0) ?_
  refine ai (r_bipush (pc := 2) (by decide +kernel : decode k_R_marks.2.1 2 = .ok (.bipush (15), 2)) (by decide : _ = (15 : Int32))) ?_
  obtain ⟨r1, hr1, h⟩ := bp_some h
  refine ai (q_callS (pc := 4) (As := [.int x1, .int 0, .int 15]) (st := []) (st2 := [.int r1]) rfl rfl (by decide +kernel : decode k_R_marks.2.1 4 = .ok (.invokestatic 433, 3)) lc_12_433 mo_R_in ⟨Nat.le_of_ble_eq_true rfl, Nat.le_of_ble_eq_true rfl⟩ (Nat.le_of_ble_eq_true rfl) (Nat.le_of_ble_eq_true rfl) (R_in_run hr1)) ?_
  rcases ite_some h with ⟨c2, h⟩ | ⟨c2, h⟩
  · refine ai (r_if_eq_t (pc := 7) (tgt := 21) (by decide +kernel : decode k_R_marks.2.1 7 = .ok (.ifCond .eq (14), 3)) (by decide) c2) ?_
    refine ai (r_iconst (pc := 21) (by decide +kernel : decode k_R_marks.2.1 21 = .ok (.iconst 0, 1)) ic_0) ?_
    cases h
    exact ⟨r_zret (by decide) rfl (by decide +kernel : decode k_R_marks.2.1 22 = .ok (.ireturn, 1)), hL⟩
  · refine ai (r_if_eq_f (pc := 7) 21 (by decide +kernel : decode k_R_marks.2.1 7 = .ok (.ifCond .eq (14), 3)) (by decide) c2) ?_
    refine ai (r_iload_n (pc := 10) (k := 2) (by decide +kernel : decode k_R_marks.2.1 10 = .ok (.iload_n 2, 1)) rfl rfl) ?_
    refine ai (r_iconst (pc := 11) (by decide +kernel : decode k_R_marks.2.1 11 = .ok (.iconst 0, 1)) ic_0) ?_
    refine ai (r_sipush (pc := 12) (by decide +kernel : decode k_R_marks.2.1 12 = .ok (.sipush (255), 3)) (by decide : _ = (255 : Int32))) ?_
    obtain ⟨r3, hr3, h⟩ := bp_some h
    refine ai (q_callS (pc := 15) (As := [.int x2, .int 0, .int 255]) (st := []) (st2 := [.int r3]) rfl rfl (by decide +kernel : decode k_R_marks.2.1 15 = .ok (.invokestatic 433, 3)) lc_12_433 mo_R_in ⟨Nat.le_of_ble_eq_true rfl, Nat.le_of_ble_eq_true rfl⟩ (Nat.le_of_ble_eq_true rfl) (Nat.le_of_ble_eq_true rfl) (R_in_run hr3)) ?_
    rcases ite_some h with ⟨c4, h⟩ | ⟨c4, h⟩
    · refine ai (r_if_ne_f (pc := 18) 23 (by decide +kernel : decode k_R_marks.2.1 18 = .ok (.ifCond .ne (5), 3)) (by decide) c4) ?_
      refine ai (r_iconst (pc := 21) (by decide +kernel : decode k_R_marks.2.1 21 = .ok (.iconst 0, 1)) ic_0) ?_
      cases h
      exact ⟨r_zret (by decide) rfl (by decide +kernel : decode k_R_marks.2.1 22 = .ok (.ireturn, 1)), hL⟩
    · refine ai (r_if_ne_t (pc := 18) (tgt := 23) (by decide +kernel : decode k_R_marks.2.1 18 = .ok (.ifCond .ne (5), 3)) (by decide) c4) ?_
      refine ai (p_aload_n (pc := 23) (k := 0) (by decide +kernel : decode k_R_marks.2.1 23 = .ok (.aload_n 0, 1)) rfl rfl) ?_
      refine ai (p_getr (pc := 24) (RR_1599_0 hL) (by decide +kernel : decode k_R_marks.2.1 24 = .ok (.getfield 143, 3)) lg_12_143 (RC_0 hL).1) ?_
      refine ai (r_iload_n (pc := 27) (k := 1) (by decide +kernel : decode k_R_marks.2.1 27 = .ok (.iload_n 1, 1)) rfl rfl) ?_
      refine ai (r_iload_n (pc := 28) (k := 2) (by decide +kernel : decode k_R_marks.2.1 28 = .ok (.iload_n 2, 1)) rfl rfl) ?_
      obtain ⟨g5, h⟩ := gd_some h
      have c6 := (RC_42 hL).1
      have c7 := (RC_42 hL).2
      obtain ⟨m8, hm8, h⟩ := vb_some h
      have hL : RL m8 := by rw [hm8]; exact hL
      refine ai (p_iast (pc := 29) hm8 (by decide +kernel : decode k_R_marks.2.1 29 = .ok (.iastore, 1)) c6 c7 g5) ?_
      refine ai (r_iconst (pc := 30) (by decide +kernel : decode k_R_marks.2.1 30 = .ok (.iconst 1, 1)) ic_1) ?_
      cases h
      exact ⟨r_zret (by decide) rfl (by decide +kernel : decode k_R_marks.2.1 31 = .ok (.ireturn, 1)), hL⟩
set_option maxRecDepth 100000 in
set_option maxHeartbeats 4000000 in
theorem R_weight_run {x1 : Int32} {x2 : Int32} {m m' : Mem} {r : Int32} (hL : RL m) (h : R_weight x1 x2 m = some (r, m')) : Run k_R_weight 0 [(0, .ref 0), (1, .int x1), (2, .int x2)] [] m (some (.int r)) m' ∧ RL m' := by
  unfold R_weight at h
  refine ai (r_iload_n (pc := 0) (k := 1) (by decide +kernel : decode k_R_weight.2.1 0 = .ok (.iload_n 1, 1)) rfl rfl) ?_
  refine ai (r_iconst (pc := 1) (by decide +kernel : decode k_R_weight.2.1 1 = .ok (.iconst 0, 1)) ic_0) ?_
  refine ai (r_iconst (pc := 2) (by decide +kernel : decode k_R_weight.2.1 2 = .ok (.iconst 3, 1)) ic_3) ?_
  obtain ⟨r1, hr1, h⟩ := bp_some h
  refine ai (q_callS (pc := 3) (As := [.int x1, .int 0, .int 3]) (st := []) (st2 := [.int r1]) rfl rfl (by decide +kernel : decode k_R_weight.2.1 3 = .ok (.invokestatic 433, 3)) lc_12_433 mo_R_in ⟨Nat.le_of_ble_eq_true rfl, Nat.le_of_ble_eq_true rfl⟩ (Nat.le_of_ble_eq_true rfl) (Nat.le_of_ble_eq_true rfl) (R_in_run hr1)) ?_
  rcases ite_some h with ⟨c2, h⟩ | ⟨c2, h⟩
  · refine ai (r_if_eq_t (pc := 6) (tgt := 19) (by decide +kernel : decode k_R_weight.2.1 6 = .ok (.ifCond .eq (13), 3)) (by decide) c2) ?_
    refine ai (r_iconst (pc := 19) (by decide +kernel : decode k_R_weight.2.1 19 = .ok (.iconst 0, 1)) ic_0) ?_
    cases h
    exact ⟨r_zret (by decide) rfl (by decide +kernel : decode k_R_weight.2.1 20 = .ok (.ireturn, 1)), hL⟩
  · refine ai (r_if_eq_f (pc := 6) 19 (by decide +kernel : decode k_R_weight.2.1 6 = .ok (.ifCond .eq (13), 3)) (by decide) c2) ?_
    refine ai (r_iload_n (pc := 9) (k := 2) (by decide +kernel : decode k_R_weight.2.1 9 = .ok (.iload_n 2, 1)) rfl rfl) ?_
    refine ai (r_iconst (pc := 10) (by decide +kernel : decode k_R_weight.2.1 10 = .ok (.iconst 0, 1)) ic_0) ?_
    refine ai (r_bipush (pc := 11) (by decide +kernel : decode k_R_weight.2.1 11 = .ok (.bipush (9), 2)) (by decide : _ = (9 : Int32))) ?_
    obtain ⟨r3, hr3, h⟩ := bp_some h
    refine ai (q_callS (pc := 13) (As := [.int x2, .int 0, .int 9]) (st := []) (st2 := [.int r3]) rfl rfl (by decide +kernel : decode k_R_weight.2.1 13 = .ok (.invokestatic 433, 3)) lc_12_433 mo_R_in ⟨Nat.le_of_ble_eq_true rfl, Nat.le_of_ble_eq_true rfl⟩ (Nat.le_of_ble_eq_true rfl) (Nat.le_of_ble_eq_true rfl) (R_in_run hr3)) ?_
    rcases ite_some h with ⟨c4, h⟩ | ⟨c4, h⟩
    · refine ai (r_if_ne_f (pc := 16) 21 (by decide +kernel : decode k_R_weight.2.1 16 = .ok (.ifCond .ne (5), 3)) (by decide) c4) ?_
      refine ai (r_iconst (pc := 19) (by decide +kernel : decode k_R_weight.2.1 19 = .ok (.iconst 0, 1)) ic_0) ?_
      cases h
      exact ⟨r_zret (by decide) rfl (by decide +kernel : decode k_R_weight.2.1 20 = .ok (.ireturn, 1)), hL⟩
    · refine ai (r_if_ne_t (pc := 16) (tgt := 21) (by decide +kernel : decode k_R_weight.2.1 16 = .ok (.ifCond .ne (5), 3)) (by decide) c4) ?_
      refine ai (p_aload_n (pc := 21) (k := 0) (by decide +kernel : decode k_R_weight.2.1 21 = .ok (.aload_n 0, 1)) rfl rfl) ?_
      refine ai (p_getr (pc := 22) (RR_1600_0 hL) (by decide +kernel : decode k_R_weight.2.1 22 = .ok (.getfield 146, 3)) lg_12_146 (RC_0 hL).1) ?_
      refine ai (r_iload_n (pc := 25) (k := 1) (by decide +kernel : decode k_R_weight.2.1 25 = .ok (.iload_n 1, 1)) rfl rfl) ?_
      refine ai (r_iload_n (pc := 26) (k := 2) (by decide +kernel : decode k_R_weight.2.1 26 = .ok (.iload_n 2, 1)) rfl rfl) ?_
      obtain ⟨g5, h⟩ := gd_some h
      have c6 := (RC_43 hL).1
      have c7 := (RC_43 hL).2
      obtain ⟨m8, hm8, h⟩ := vb_some h
      have hL : RL m8 := by rw [hm8]; exact hL
      refine ai (p_iast (pc := 27) hm8 (by decide +kernel : decode k_R_weight.2.1 27 = .ok (.iastore, 1)) c6 c7 g5) ?_
      refine ai (p_aload_n (pc := 28) (k := 0) (by decide +kernel : decode k_R_weight.2.1 28 = .ok (.aload_n 0, 1)) rfl rfl) ?_
      obtain ⟨r9, m10, hr9, h⟩ := bn_some h
      have q11 := R_changed_run hL hr9
      have c12 := (RC_0 hL).1
      have hL := q11.2
      refine ai (q_callV (pc := 29) (As := []) (st := []) (st2 := []) (b := 0) rfl rfl (by decide +kernel : decode k_R_weight.2.1 29 = .ok (.invokevirtual 437, 3)) lc_12_437 mo_R_changed ⟨Nat.le_of_ble_eq_true rfl, Nat.le_of_ble_eq_true rfl⟩ (Nat.le_of_ble_eq_true rfl) (Nat.le_of_ble_eq_true rfl) c12 q11.1) ?_
      refine ai (r_iconst (pc := 32) (by decide +kernel : decode k_R_weight.2.1 32 = .ok (.iconst 1, 1)) ic_1) ?_
      cases h
      exact ⟨r_zret (by decide) rfl (by decide +kernel : decode k_R_weight.2.1 33 = .ok (.ireturn, 1)), hL⟩
set_option maxRecDepth 100000 in
set_option maxHeartbeats 4000000 in
theorem R_price_run {x1 : Int32} {x2 : Int32} {x3 : Int32} {x4 : Int32} {m m' : Mem} {r : Int32} (hL : RL m) (h : R_price x1 x2 x3 x4 m = some (r, m')) : Run k_R_price 0 [(0, .ref 0), (1, .int x1), (2, .int x2), (3, .int x3), (4, .int x4)] [] m (some (.int r)) m' ∧ RL m' := by
  unfold R_price at h
  refine ai (p_aload_n (pc := 0) (k := 0) (by decide +kernel : decode k_R_price.2.1 0 = .ok (.aload_n 0, 1)) rfl rfl) ?_
  refine ai (r_getI (pc := 1) (by decide +kernel : decode k_R_price.2.1 1 = .ok (.getfield 338, 3)) lg_12_338 (by decide) (RC_0 hL).1) ?_
  refine ai (r_sipush (pc := 4) (by decide +kernel : decode k_R_price.2.1 4 = .ok (.sipush (160), 3)) (by decide : _ = (160 : Int32))) ?_
  rcases ite_some h with ⟨c1, h⟩ | ⟨c1, h⟩
  · refine ai (r_icmp_eq_t (pc := 7) (tgt := 47) (by decide +kernel : decode k_R_price.2.1 7 = .ok (.if_icmp .eq (40), 3)) (by decide) c1) ?_
    refine ai (r_iconst (pc := 47) (by decide +kernel : decode k_R_price.2.1 47 = .ok (.iconst (-1), 1)) ic_m1) ?_
    refine ai (r_goto (pc := 48) (tgt := 61) (by decide +kernel : decode k_R_price.2.1 48 = .ok (.goto (13), 3)) (by decide)) ?_
    cases h
    exact ⟨r_iret rfl (by decide +kernel : decode k_R_price.2.1 61 = .ok (.ireturn, 1)), hL⟩
  · refine ai (r_icmp_eq_f (pc := 7) 47 (by decide +kernel : decode k_R_price.2.1 7 = .ok (.if_icmp .eq (40), 3)) (by decide) c1) ?_
    refine ai (p_aload_n (pc := 10) (k := 0) (by decide +kernel : decode k_R_price.2.1 10 = .ok (.aload_n 0, 1)) rfl rfl) ?_
    refine ai (r_iload_n (pc := 11) (k := 1) (by decide +kernel : decode k_R_price.2.1 11 = .ok (.iload_n 1, 1)) rfl rfl) ?_
    obtain ⟨r2, m3, hr2, h⟩ := bn_some h
    have q4 := R_isTown_run hL hr2
    have c5 := (RC_0 hL).1
    have hL := q4.2
    refine ai (q_callV (pc := 12) (As := [.int x1]) (st := []) (st2 := [.int r2]) (b := 0) rfl rfl (by decide +kernel : decode k_R_price.2.1 12 = .ok (.invokevirtual 430, 3)) lc_12_430 mo_R_isTown ⟨Nat.le_of_ble_eq_true rfl, Nat.le_of_ble_eq_true rfl⟩ (Nat.le_of_ble_eq_true rfl) (Nat.le_of_ble_eq_true rfl) c5 q4.1) ?_
    rcases ite_some h with ⟨c6, h⟩ | ⟨c6, h⟩
    · refine ai (r_if_eq_t (pc := 15) (tgt := 47) (by decide +kernel : decode k_R_price.2.1 15 = .ok (.ifCond .eq (32), 3)) (by decide) c6) ?_
      refine ai (r_iconst (pc := 47) (by decide +kernel : decode k_R_price.2.1 47 = .ok (.iconst (-1), 1)) ic_m1) ?_
      refine ai (r_goto (pc := 48) (tgt := 61) (by decide +kernel : decode k_R_price.2.1 48 = .ok (.goto (13), 3)) (by decide)) ?_
      cases h
      exact ⟨r_iret rfl (by decide +kernel : decode k_R_price.2.1 61 = .ok (.ireturn, 1)), hL⟩
    · refine ai (r_if_eq_f (pc := 15) 47 (by decide +kernel : decode k_R_price.2.1 15 = .ok (.ifCond .eq (32), 3)) (by decide) c6) ?_
      refine ai (r_iload_n (pc := 18) (k := 2) (by decide +kernel : decode k_R_price.2.1 18 = .ok (.iload_n 2, 1)) rfl rfl) ?_
      refine ai (r_iconst (pc := 19) (by decide +kernel : decode k_R_price.2.1 19 = .ok (.iconst 0, 1)) ic_0) ?_
      refine ai (r_iconst (pc := 20) (by decide +kernel : decode k_R_price.2.1 20 = .ok (.iconst 3, 1)) ic_3) ?_
      obtain ⟨r7, hr7, h⟩ := bp_some h
      refine ai (q_callS (pc := 21) (As := [.int x2, .int 0, .int 3]) (st := []) (st2 := [.int r7]) rfl rfl (by decide +kernel : decode k_R_price.2.1 21 = .ok (.invokestatic 433, 3)) lc_12_433 mo_R_in ⟨Nat.le_of_ble_eq_true rfl, Nat.le_of_ble_eq_true rfl⟩ (Nat.le_of_ble_eq_true rfl) (Nat.le_of_ble_eq_true rfl) (R_in_run hr7)) ?_
      rcases ite_some h with ⟨c8, h⟩ | ⟨c8, h⟩
      · refine ai (r_if_eq_t (pc := 24) (tgt := 47) (by decide +kernel : decode k_R_price.2.1 24 = .ok (.ifCond .eq (23), 3)) (by decide) c8) ?_
        refine ai (r_iconst (pc := 47) (by decide +kernel : decode k_R_price.2.1 47 = .ok (.iconst (-1), 1)) ic_m1) ?_
        refine ai (r_goto (pc := 48) (tgt := 61) (by decide +kernel : decode k_R_price.2.1 48 = .ok (.goto (13), 3)) (by decide)) ?_
        cases h
        exact ⟨r_iret rfl (by decide +kernel : decode k_R_price.2.1 61 = .ok (.ireturn, 1)), hL⟩
      · refine ai (r_if_eq_f (pc := 24) 47 (by decide +kernel : decode k_R_price.2.1 24 = .ok (.ifCond .eq (23), 3)) (by decide) c8) ?_
        refine ai (r_iload_n (pc := 27) (k := 3) (by decide +kernel : decode k_R_price.2.1 27 = .ok (.iload_n 3, 1)) rfl rfl) ?_
        refine ai (r_iconst (pc := 28) (by decide +kernel : decode k_R_price.2.1 28 = .ok (.iconst 0, 1)) ic_0) ?_
        refine ai (r_iconst (pc := 29) (by decide +kernel : decode k_R_price.2.1 29 = .ok (.iconst 3, 1)) ic_3) ?_
        obtain ⟨r9, hr9, h⟩ := bp_some h
        refine ai (q_callS (pc := 30) (As := [.int x3, .int 0, .int 3]) (st := []) (st2 := [.int r9]) rfl rfl (by decide +kernel : decode k_R_price.2.1 30 = .ok (.invokestatic 433, 3)) lc_12_433 mo_R_in ⟨Nat.le_of_ble_eq_true rfl, Nat.le_of_ble_eq_true rfl⟩ (Nat.le_of_ble_eq_true rfl) (Nat.le_of_ble_eq_true rfl) (R_in_run hr9)) ?_
        rcases ite_some h with ⟨c10, h⟩ | ⟨c10, h⟩
        · refine ai (r_if_eq_t (pc := 33) (tgt := 47) (by decide +kernel : decode k_R_price.2.1 33 = .ok (.ifCond .eq (14), 3)) (by decide) c10) ?_
          refine ai (r_iconst (pc := 47) (by decide +kernel : decode k_R_price.2.1 47 = .ok (.iconst (-1), 1)) ic_m1) ?_
          refine ai (r_goto (pc := 48) (tgt := 61) (by decide +kernel : decode k_R_price.2.1 48 = .ok (.goto (13), 3)) (by decide)) ?_
          cases h
          exact ⟨r_iret rfl (by decide +kernel : decode k_R_price.2.1 61 = .ok (.ireturn, 1)), hL⟩
        · refine ai (r_if_eq_f (pc := 33) 47 (by decide +kernel : decode k_R_price.2.1 33 = .ok (.ifCond .eq (14), 3)) (by decide) c10) ?_
          refine ai (r_iload (pc := 36) (k := 4) (by decide +kernel : decode k_R_price.2.1 36 = .ok (.iload 4, 2)) rfl) ?_
          refine ai (r_iconst (pc := 38) (by decide +kernel : decode k_R_price.2.1 38 = .ok (.iconst 0, 1)) ic_0) ?_
          refine ai (r_bipush (pc := 39) (by decide +kernel : decode k_R_price.2.1 39 = .ok (.bipush (99), 2)) (by decide : _ = (99 : Int32))) ?_
          obtain ⟨r11, hr11, h⟩ := bp_some h
          refine ai (q_callS (pc := 41) (As := [.int x4, .int 0, .int 99]) (st := []) (st2 := [.int r11]) rfl rfl (by decide +kernel : decode k_R_price.2.1 41 = .ok (.invokestatic 433, 3)) lc_12_433 mo_R_in ⟨Nat.le_of_ble_eq_true rfl, Nat.le_of_ble_eq_true rfl⟩ (Nat.le_of_ble_eq_true rfl) (Nat.le_of_ble_eq_true rfl) (R_in_run hr11)) ?_
          rcases ite_some h with ⟨c12, h⟩ | ⟨c12, h⟩
          · refine ai (r_if_ne_f (pc := 44) 51 (by decide +kernel : decode k_R_price.2.1 44 = .ok (.ifCond .ne (7), 3)) (by decide) c12) ?_
            refine ai (r_iconst (pc := 47) (by decide +kernel : decode k_R_price.2.1 47 = .ok (.iconst (-1), 1)) ic_m1) ?_
            refine ai (r_goto (pc := 48) (tgt := 61) (by decide +kernel : decode k_R_price.2.1 48 = .ok (.goto (13), 3)) (by decide)) ?_
            cases h
            exact ⟨r_iret rfl (by decide +kernel : decode k_R_price.2.1 61 = .ok (.ireturn, 1)), hL⟩
          · refine ai (r_if_ne_t (pc := 44) (tgt := 51) (by decide +kernel : decode k_R_price.2.1 44 = .ok (.ifCond .ne (7), 3)) (by decide) c12) ?_
            refine ai (p_aload_n (pc := 51) (k := 0) (by decide +kernel : decode k_R_price.2.1 51 = .ok (.aload_n 0, 1)) rfl rfl) ?_
            refine ai (r_iconst (pc := 52) (by decide +kernel : decode k_R_price.2.1 52 = .ok (.iconst 4, 1)) ic_4) ?_
            refine ai (r_iload_n (pc := 53) (k := 1) (by decide +kernel : decode k_R_price.2.1 53 = .ok (.iload_n 1, 1)) rfl rfl) ?_
            refine ai (r_iload_n (pc := 54) (k := 2) (by decide +kernel : decode k_R_price.2.1 54 = .ok (.iload_n 2, 1)) rfl rfl) ?_
            refine ai (r_iload_n (pc := 55) (k := 3) (by decide +kernel : decode k_R_price.2.1 55 = .ok (.iload_n 3, 1)) rfl rfl) ?_
            refine ai (r_iload (pc := 56) (k := 4) (by decide +kernel : decode k_R_price.2.1 56 = .ok (.iload 4, 2)) rfl) ?_
            obtain ⟨r13, m14, hr13, h⟩ := bn_some h
            have q15 := R_fact_run hL hr13
            have c16 := (RC_0 hL).1
            have hL := q15.2
            refine ai (q_callV (pc := 58) (As := [.int 4, .int x1, .int x2, .int x3, .int x4]) (st := []) (st2 := [.int r13]) (b := 0) rfl rfl (by decide +kernel : decode k_R_price.2.1 58 = .ok (.invokevirtual 378, 3)) lc_12_378 mo_R_fact ⟨Nat.le_of_ble_eq_true rfl, Nat.le_of_ble_eq_true rfl⟩ (Nat.le_of_ble_eq_true rfl) (Nat.le_of_ble_eq_true rfl) c16 q15.1) ?_
            cases h
            exact ⟨r_iret rfl (by decide +kernel : decode k_R_price.2.1 61 = .ok (.ireturn, 1)), hL⟩
set_option maxRecDepth 100000 in
set_option maxHeartbeats 4000000 in
theorem R_wet_run {x1 : Int32} {x2 : Int32} {x3 : Int32} {m m' : Mem} {r : Int32} (hL : RL m) (h : R_wet x1 x2 x3 m = some (r, m')) : Run k_R_wet 0 [(0, .ref 0), (1, .int x1), (2, .int x2), (3, .int x3)] [] m (some (.int r)) m' ∧ RL m' := by
  unfold R_wet at h
  refine ai (p_aload_n (pc := 0) (k := 0) (by decide +kernel : decode k_R_wet.2.1 0 = .ok (.aload_n 0, 1)) rfl rfl) ?_
  refine ai (r_getI (pc := 1) (by decide +kernel : decode k_R_wet.2.1 1 = .ok (.getfield 338, 3)) lg_12_338 (by decide) (RC_0 hL).1) ?_
  refine ai (r_sipush (pc := 4) (by decide +kernel : decode k_R_wet.2.1 4 = .ok (.sipush (160), 3)) (by decide : _ = (160 : Int32))) ?_
  rcases ite_some h with ⟨c1, h⟩ | ⟨c1, h⟩
  · refine ai (r_icmp_eq_t (pc := 7) (tgt := 39) (by decide +kernel : decode k_R_wet.2.1 7 = .ok (.if_icmp .eq (32), 3)) (by decide) c1) ?_
    refine ai (r_iconst (pc := 39) (by decide +kernel : decode k_R_wet.2.1 39 = .ok (.iconst (-1), 1)) ic_m1) ?_
    refine ai (r_goto (pc := 40) (tgt := 52) (by decide +kernel : decode k_R_wet.2.1 40 = .ok (.goto (12), 3)) (by decide)) ?_
    cases h
    exact ⟨r_iret rfl (by decide +kernel : decode k_R_wet.2.1 52 = .ok (.ireturn, 1)), hL⟩
  · refine ai (r_icmp_eq_f (pc := 7) 39 (by decide +kernel : decode k_R_wet.2.1 7 = .ok (.if_icmp .eq (32), 3)) (by decide) c1) ?_
    refine ai (p_aload_n (pc := 10) (k := 0) (by decide +kernel : decode k_R_wet.2.1 10 = .ok (.aload_n 0, 1)) rfl rfl) ?_
    refine ai (r_iload_n (pc := 11) (k := 1) (by decide +kernel : decode k_R_wet.2.1 11 = .ok (.iload_n 1, 1)) rfl rfl) ?_
    obtain ⟨r2, m3, hr2, h⟩ := bn_some h
    have q4 := R_isFirm_run hL hr2
    have c5 := (RC_0 hL).1
    have hL := q4.2
    refine ai (q_callV (pc := 12) (As := [.int x1]) (st := []) (st2 := [.int r2]) (b := 0) rfl rfl (by decide +kernel : decode k_R_wet.2.1 12 = .ok (.invokevirtual 440, 3)) lc_12_440 mo_R_isFirm ⟨Nat.le_of_ble_eq_true rfl, Nat.le_of_ble_eq_true rfl⟩ (Nat.le_of_ble_eq_true rfl) (Nat.le_of_ble_eq_true rfl) c5 q4.1) ?_
    rcases ite_some h with ⟨c6, h⟩ | ⟨c6, h⟩
    · refine ai (r_if_eq_t (pc := 15) (tgt := 39) (by decide +kernel : decode k_R_wet.2.1 15 = .ok (.ifCond .eq (24), 3)) (by decide) c6) ?_
      refine ai (r_iconst (pc := 39) (by decide +kernel : decode k_R_wet.2.1 39 = .ok (.iconst (-1), 1)) ic_m1) ?_
      refine ai (r_goto (pc := 40) (tgt := 52) (by decide +kernel : decode k_R_wet.2.1 40 = .ok (.goto (12), 3)) (by decide)) ?_
      cases h
      exact ⟨r_iret rfl (by decide +kernel : decode k_R_wet.2.1 52 = .ok (.ireturn, 1)), hL⟩
    · refine ai (r_if_eq_f (pc := 15) 39 (by decide +kernel : decode k_R_wet.2.1 15 = .ok (.ifCond .eq (24), 3)) (by decide) c6) ?_
      refine ai (r_iload_n (pc := 18) (k := 2) (by decide +kernel : decode k_R_wet.2.1 18 = .ok (.iload_n 2, 1)) rfl rfl) ?_
      refine ai (r_iconst (pc := 19) (by decide +kernel : decode k_R_wet.2.1 19 = .ok (.iconst 0, 1)) ic_0) ?_
      refine ai (r_sipush (pc := 20) (by decide +kernel : decode k_R_wet.2.1 20 = .ok (.sipush (139), 3)) (by decide : _ = (139 : Int32))) ?_
      obtain ⟨r7, hr7, h⟩ := bp_some h
      refine ai (q_callS (pc := 23) (As := [.int x2, .int 0, .int 139]) (st := []) (st2 := [.int r7]) rfl rfl (by decide +kernel : decode k_R_wet.2.1 23 = .ok (.invokestatic 433, 3)) lc_12_433 mo_R_in ⟨Nat.le_of_ble_eq_true rfl, Nat.le_of_ble_eq_true rfl⟩ (Nat.le_of_ble_eq_true rfl) (Nat.le_of_ble_eq_true rfl) (R_in_run hr7)) ?_
      rcases ite_some h with ⟨c8, h⟩ | ⟨c8, h⟩
      · refine ai (r_if_eq_t (pc := 26) (tgt := 39) (by decide +kernel : decode k_R_wet.2.1 26 = .ok (.ifCond .eq (13), 3)) (by decide) c8) ?_
        refine ai (r_iconst (pc := 39) (by decide +kernel : decode k_R_wet.2.1 39 = .ok (.iconst (-1), 1)) ic_m1) ?_
        refine ai (r_goto (pc := 40) (tgt := 52) (by decide +kernel : decode k_R_wet.2.1 40 = .ok (.goto (12), 3)) (by decide)) ?_
        cases h
        exact ⟨r_iret rfl (by decide +kernel : decode k_R_wet.2.1 52 = .ok (.ireturn, 1)), hL⟩
      · refine ai (r_if_eq_f (pc := 26) 39 (by decide +kernel : decode k_R_wet.2.1 26 = .ok (.ifCond .eq (13), 3)) (by decide) c8) ?_
        refine ai (r_iload_n (pc := 29) (k := 3) (by decide +kernel : decode k_R_wet.2.1 29 = .ok (.iload_n 3, 1)) rfl rfl) ?_
        refine ai (r_iconst (pc := 30) (by decide +kernel : decode k_R_wet.2.1 30 = .ok (.iconst 0, 1)) ic_0) ?_
        refine ai (r_bipush (pc := 31) (by decide +kernel : decode k_R_wet.2.1 31 = .ok (.bipush (9), 2)) (by decide : _ = (9 : Int32))) ?_
        obtain ⟨r9, hr9, h⟩ := bp_some h
        refine ai (q_callS (pc := 33) (As := [.int x3, .int 0, .int 9]) (st := []) (st2 := [.int r9]) rfl rfl (by decide +kernel : decode k_R_wet.2.1 33 = .ok (.invokestatic 433, 3)) lc_12_433 mo_R_in ⟨Nat.le_of_ble_eq_true rfl, Nat.le_of_ble_eq_true rfl⟩ (Nat.le_of_ble_eq_true rfl) (Nat.le_of_ble_eq_true rfl) (R_in_run hr9)) ?_
        rcases ite_some h with ⟨c10, h⟩ | ⟨c10, h⟩
        · refine ai (r_if_ne_f (pc := 36) 43 (by decide +kernel : decode k_R_wet.2.1 36 = .ok (.ifCond .ne (7), 3)) (by decide) c10) ?_
          refine ai (r_iconst (pc := 39) (by decide +kernel : decode k_R_wet.2.1 39 = .ok (.iconst (-1), 1)) ic_m1) ?_
          refine ai (r_goto (pc := 40) (tgt := 52) (by decide +kernel : decode k_R_wet.2.1 40 = .ok (.goto (12), 3)) (by decide)) ?_
          cases h
          exact ⟨r_iret rfl (by decide +kernel : decode k_R_wet.2.1 52 = .ok (.ireturn, 1)), hL⟩
        · refine ai (r_if_ne_t (pc := 36) (tgt := 43) (by decide +kernel : decode k_R_wet.2.1 36 = .ok (.ifCond .ne (7), 3)) (by decide) c10) ?_
          refine ai (p_aload_n (pc := 43) (k := 0) (by decide +kernel : decode k_R_wet.2.1 43 = .ok (.aload_n 0, 1)) rfl rfl) ?_
          refine ai (r_iconst (pc := 44) (by decide +kernel : decode k_R_wet.2.1 44 = .ok (.iconst 5, 1)) ic_5) ?_
          refine ai (r_iload_n (pc := 45) (k := 1) (by decide +kernel : decode k_R_wet.2.1 45 = .ok (.iload_n 1, 1)) rfl rfl) ?_
          refine ai (r_iload_n (pc := 46) (k := 2) (by decide +kernel : decode k_R_wet.2.1 46 = .ok (.iload_n 2, 1)) rfl rfl) ?_
          refine ai (r_iconst (pc := 47) (by decide +kernel : decode k_R_wet.2.1 47 = .ok (.iconst 0, 1)) ic_0) ?_
          refine ai (r_iload_n (pc := 48) (k := 3) (by decide +kernel : decode k_R_wet.2.1 48 = .ok (.iload_n 3, 1)) rfl rfl) ?_
          obtain ⟨r11, m12, hr11, h⟩ := bn_some h
          have q13 := R_fact_run hL hr11
          have c14 := (RC_0 hL).1
          have hL := q13.2
          refine ai (q_callV (pc := 49) (As := [.int 5, .int x1, .int x2, .int 0, .int x3]) (st := []) (st2 := [.int r11]) (b := 0) rfl rfl (by decide +kernel : decode k_R_wet.2.1 49 = .ok (.invokevirtual 378, 3)) lc_12_378 mo_R_fact ⟨Nat.le_of_ble_eq_true rfl, Nat.le_of_ble_eq_true rfl⟩ (Nat.le_of_ble_eq_true rfl) (Nat.le_of_ble_eq_true rfl) c14 q13.1) ?_
          cases h
          exact ⟨r_iret rfl (by decide +kernel : decode k_R_wet.2.1 52 = .ok (.ireturn, 1)), hL⟩
set_option maxRecDepth 100000 in
set_option maxHeartbeats 4000000 in
theorem R_isPerson_run {x1 : Int32} {m m' : Mem} {r : Int32} (hL : RL m) (h : R_isPerson x1 m = some (r, m')) : Run k_R_isPerson 0 [(0, .ref 0), (1, .int x1)] [] m (some (.int r)) m' ∧ RL m' := by
  unfold R_isPerson at h
  refine ai (r_iload_n (pc := 0) (k := 1) (by decide +kernel : decode k_R_isPerson.2.1 0 = .ok (.iload_n 1, 1)) rfl rfl) ?_
  rcases ite_some h with ⟨c1, h⟩ | ⟨c1, h⟩
  · refine ai (r_if_lt_t (pc := 1) (tgt := 16) (by decide +kernel : decode k_R_isPerson.2.1 1 = .ok (.ifCond .lt (15), 3)) (by decide) c1) ?_
    refine ai (r_iconst (pc := 16) (by decide +kernel : decode k_R_isPerson.2.1 16 = .ok (.iconst 0, 1)) ic_0) ?_
    cases h
    exact ⟨r_zret (by decide) rfl (by decide +kernel : decode k_R_isPerson.2.1 17 = .ok (.ireturn, 1)), hL⟩
  · refine ai (r_if_lt_f (pc := 1) 16 (by decide +kernel : decode k_R_isPerson.2.1 1 = .ok (.ifCond .lt (15), 3)) (by decide) c1) ?_
    refine ai (r_iload_n (pc := 4) (k := 1) (by decide +kernel : decode k_R_isPerson.2.1 4 = .ok (.iload_n 1, 1)) rfl rfl) ?_
    refine ai (p_aload_n (pc := 5) (k := 0) (by decide +kernel : decode k_R_isPerson.2.1 5 = .ok (.aload_n 0, 1)) rfl rfl) ?_
    refine ai (r_getI (pc := 6) (by decide +kernel : decode k_R_isPerson.2.1 6 = .ok (.getfield 427, 3)) lg_12_427 (by decide) (RC_0 hL).1) ?_
    rcases ite_some h with ⟨c2, h⟩ | ⟨c2, h⟩
    · refine ai (r_icmp_ge_t (pc := 9) (tgt := 16) (by decide +kernel : decode k_R_isPerson.2.1 9 = .ok (.if_icmp .ge (7), 3)) (by decide) c2) ?_
      refine ai (r_iconst (pc := 16) (by decide +kernel : decode k_R_isPerson.2.1 16 = .ok (.iconst 0, 1)) ic_0) ?_
      cases h
      exact ⟨r_zret (by decide) rfl (by decide +kernel : decode k_R_isPerson.2.1 17 = .ok (.ireturn, 1)), hL⟩
    · refine ai (r_icmp_ge_f (pc := 9) 16 (by decide +kernel : decode k_R_isPerson.2.1 9 = .ok (.if_icmp .ge (7), 3)) (by decide) c2) ?_
      refine ai (r_iconst (pc := 12) (by decide +kernel : decode k_R_isPerson.2.1 12 = .ok (.iconst 1, 1)) ic_1) ?_
      refine ai (r_goto (pc := 13) (tgt := 17) (by decide +kernel : decode k_R_isPerson.2.1 13 = .ok (.goto (4), 3)) (by decide)) ?_
      cases h
      exact ⟨r_zret (by decide) rfl (by decide +kernel : decode k_R_isPerson.2.1 17 = .ok (.ireturn, 1)), hL⟩
set_option maxRecDepth 100000 in
set_option maxHeartbeats 4000000 in
theorem R_row_78_run {x1 : Int32} {x2 : Int32} {x3 : Int32} {m m' : Mem} {r : Int32} (hL : RL m) (h : R_row_78 x1 x2 x3 m = some (r, m')) : Run k_R_row 78 [(0, .ref 0), (1, .int x1), (2, .int x2), (3, .int x3)] [] m (some (.int r)) m' ∧ RL m' := by
  unfold R_row_78 at h
  refine ai (p_aload_n (pc := 78) (k := 0) (by decide +kernel : decode k_R_row.2.1 78 = .ok (.aload_n 0, 1)) rfl rfl) ?_
  refine ai (r_bipush (pc := 79) (by decide +kernel : decode k_R_row.2.1 79 = .ok (.bipush (6), 2)) (by decide : _ = (6 : Int32))) ?_
  refine ai (r_iload_n (pc := 81) (k := 1) (by decide +kernel : decode k_R_row.2.1 81 = .ok (.iload_n 1, 1)) rfl rfl) ?_
  refine ai (r_iload_n (pc := 82) (k := 2) (by decide +kernel : decode k_R_row.2.1 82 = .ok (.iload_n 2, 1)) rfl rfl) ?_
  refine ai (r_iconst (pc := 83) (by decide +kernel : decode k_R_row.2.1 83 = .ok (.iconst 0, 1)) ic_0) ?_
  refine ai (r_iload_n (pc := 84) (k := 3) (by decide +kernel : decode k_R_row.2.1 84 = .ok (.iload_n 3, 1)) rfl rfl) ?_
  obtain ⟨r1, m2, hr1, h⟩ := bn_some h
  have q3 := R_fact_run hL hr1
  have c4 := (RC_0 hL).1
  have hL := q3.2
  refine ai (q_callV (pc := 85) (As := [.int 6, .int x1, .int x2, .int 0, .int x3]) (st := []) (st2 := [.int r1]) (b := 0) rfl rfl (by decide +kernel : decode k_R_row.2.1 85 = .ok (.invokevirtual 378, 3)) lc_12_378 mo_R_fact ⟨Nat.le_of_ble_eq_true rfl, Nat.le_of_ble_eq_true rfl⟩ (Nat.le_of_ble_eq_true rfl) (Nat.le_of_ble_eq_true rfl) c4 q3.1) ?_
  cases h
  exact ⟨r_iret rfl (by decide +kernel : decode k_R_row.2.1 88 = .ok (.ireturn, 1)), hL⟩
set_option maxRecDepth 100000 in
set_option maxHeartbeats 4000000 in
theorem R_row_49_run {n : Nat} {x1 : Int32} {x2 : Int32} {x3 : Int32} {x4 : Int32} {m m' : Mem} {r : Int32} (hL : RL m) (h : R_row_49 n x1 x2 x3 x4 m = some (r, m')) : Run k_R_row 49 [(0, .ref 0), (1, .int x1), (2, .int x2), (3, .int x3), (4, .int x4)] [] m (some (.int r)) m' ∧ RL m' := by
  induction n generalizing x1 x2 x3 x4 m r m' with
  | zero => exact absurd h (by simp [R_row_49])
  | succ n ih =>
    rw [R_row_49.eq_2] at h
    refine ai (r_iload (pc := 49) (k := 4) (by decide +kernel : decode k_R_row.2.1 49 = .ok (.iload 4, 2)) rfl) ?_
    refine ai (r_bipush (pc := 51) (by decide +kernel : decode k_R_row.2.1 51 = .ok (.bipush (48), 2)) (by decide : _ = (48 : Int32))) ?_
    rcases ite_some h with ⟨c1, h⟩ | ⟨c1, h⟩
    · refine ai (r_icmp_ge_t (pc := 53) (tgt := 78) (by decide +kernel : decode k_R_row.2.1 53 = .ok (.if_icmp .ge (25), 3)) (by decide) c1) ?_
      exact (ai (r_sub [0, 1, 2, 3] rfl) (R_row_78_run hL h))
    · refine ai (r_icmp_ge_f (pc := 53) 78 (by decide +kernel : decode k_R_row.2.1 53 = .ok (.if_icmp .ge (25), 3)) (by decide) c1) ?_
      refine ai (p_aload_n (pc := 56) (k := 0) (by decide +kernel : decode k_R_row.2.1 56 = .ok (.aload_n 0, 1)) rfl rfl) ?_
      refine ai (p_getr (pc := 57) (RR_1607_0 hL) (by decide +kernel : decode k_R_row.2.1 57 = .ok (.getfield 164, 3)) lg_12_164 (RC_0 hL).1) ?_
      refine ai (r_bipush (pc := 60) (by decide +kernel : decode k_R_row.2.1 60 = .ok (.bipush (48), 2)) (by decide : _ = (48 : Int32))) ?_
      refine ai (p_aload_n (pc := 62) (k := 0) (by decide +kernel : decode k_R_row.2.1 62 = .ok (.aload_n 0, 1)) rfl rfl) ?_
      refine ai (r_getI (pc := 63) (by decide +kernel : decode k_R_row.2.1 63 = .ok (.getfield 338, 3)) lg_12_338 (by decide) (RC_0 hL).1) ?_
      refine ai (r_imul (pc := 66) (by decide +kernel : decode k_R_row.2.1 66 = .ok (.imul, 1))) ?_
      refine ai (r_iload (pc := 67) (k := 4) (by decide +kernel : decode k_R_row.2.1 67 = .ok (.iload 4, 2)) rfl) ?_
      refine ai (r_iadd (pc := 69) (by decide +kernel : decode k_R_row.2.1 69 = .ok (.iadd, 1))) ?_
      refine ai (r_iconst (pc := 70) (by decide +kernel : decode k_R_row.2.1 70 = .ok (.iconst (-1), 1)) ic_m1) ?_
      obtain ⟨g2, h⟩ := gd_some h
      have c3 := (RC_49 hL).1
      have c4 := (RC_49 hL).2
      obtain ⟨m5, hm5, h⟩ := vb_some h
      have hL : RL m5 := by rw [hm5]; exact hL
      refine ai (p_iast (pc := 71) hm5 (by decide +kernel : decode k_R_row.2.1 71 = .ok (.iastore, 1)) c3 c4 g2) ?_
      obtain ⟨v6, hv6, h⟩ := vb_some h
      refine ai (e_iinc (pc := 72) (k := 4) hv6 ic_1 (by decide +kernel : decode k_R_row.2.1 72 = .ok (.iinc 4 (1), 3)) rfl (by decide) rfl) ?_
      refine ai (r_goto (pc := 75) (tgt := 49) (by decide +kernel : decode k_R_row.2.1 75 = .ok (.goto (-26), 3)) (by decide)) ?_
      exact (ai (r_sub [1, 2, 3, 4, 0] rfl) (ih hL h))
set_option maxRecDepth 100000 in
set_option maxHeartbeats 4000000 in
theorem R_row_46_run {x1 : Int32} {x2 : Int32} {x3 : Int32} {m m' : Mem} {r : Int32} (hL : RL m) (h : R_row_46 x1 x2 x3 m = some (r, m')) : Run k_R_row 46 [(0, .ref 0), (1, .int x1), (2, .int x2), (3, .int x3)] [] m (some (.int r)) m' ∧ RL m' := by
  unfold R_row_46 at h
  refine ai (r_iconst (pc := 46) (by decide +kernel : decode k_R_row.2.1 46 = .ok (.iconst 0, 1)) ic_0) ?_
  refine ai (e_istore (pc := 47) rfl (by decide +kernel : decode k_R_row.2.1 47 = .ok (.istore 4, 2)) (by decide) rfl) ?_
  exact (ai (r_sub [1, 2, 3, 4, 0] rfl) (R_row_49_run hL h))
set_option maxRecDepth 100000 in
set_option maxHeartbeats 4000000 in
theorem R_row_run {x1 : Int32} {x2 : Int32} {x3 : Int32} {m m' : Mem} {r : Int32} (hL : RL m) (h : R_row x1 x2 x3 m = some (r, m')) : Run k_R_row 0 [(0, .ref 0), (1, .int x1), (2, .int x2), (3, .int x3)] [] m (some (.int r)) m' ∧ RL m' := by
  unfold R_row at h
  refine ai (p_aload_n (pc := 0) (k := 0) (by decide +kernel : decode k_R_row.2.1 0 = .ok (.aload_n 0, 1)) rfl rfl) ?_
  refine ai (r_getI (pc := 1) (by decide +kernel : decode k_R_row.2.1 1 = .ok (.getfield 338, 3)) lg_12_338 (by decide) (RC_0 hL).1) ?_
  refine ai (r_sipush (pc := 4) (by decide +kernel : decode k_R_row.2.1 4 = .ok (.sipush (160), 3)) (by decide : _ = (160 : Int32))) ?_
  rcases ite_some h with ⟨c1, h⟩ | ⟨c1, h⟩
  · refine ai (r_icmp_eq_t (pc := 7) (tgt := 44) (by decide +kernel : decode k_R_row.2.1 7 = .ok (.if_icmp .eq (37), 3)) (by decide) c1) ?_
    refine ai (r_iconst (pc := 44) (by decide +kernel : decode k_R_row.2.1 44 = .ok (.iconst (-1), 1)) ic_m1) ?_
    cases h
    exact ⟨r_iret rfl (by decide +kernel : decode k_R_row.2.1 45 = .ok (.ireturn, 1)), hL⟩
  · refine ai (r_icmp_eq_f (pc := 7) 44 (by decide +kernel : decode k_R_row.2.1 7 = .ok (.if_icmp .eq (37), 3)) (by decide) c1) ?_
    refine ai (p_aload_n (pc := 10) (k := 0) (by decide +kernel : decode k_R_row.2.1 10 = .ok (.aload_n 0, 1)) rfl rfl) ?_
    refine ai (r_iload_n (pc := 11) (k := 1) (by decide +kernel : decode k_R_row.2.1 11 = .ok (.iload_n 1, 1)) rfl rfl) ?_
    obtain ⟨r2, m3, hr2, h⟩ := bn_some h
    have q4 := R_isPerson_run hL hr2
    have c5 := (RC_0 hL).1
    have hL := q4.2
    refine ai (q_callV (pc := 12) (As := [.int x1]) (st := []) (st2 := [.int r2]) (b := 0) rfl rfl (by decide +kernel : decode k_R_row.2.1 12 = .ok (.invokevirtual 443, 3)) lc_12_443 mo_R_isPerson ⟨Nat.le_of_ble_eq_true rfl, Nat.le_of_ble_eq_true rfl⟩ (Nat.le_of_ble_eq_true rfl) (Nat.le_of_ble_eq_true rfl) c5 q4.1) ?_
    rcases ite_some h with ⟨c6, h⟩ | ⟨c6, h⟩
    · refine ai (r_if_eq_t (pc := 15) (tgt := 44) (by decide +kernel : decode k_R_row.2.1 15 = .ok (.ifCond .eq (29), 3)) (by decide) c6) ?_
      refine ai (r_iconst (pc := 44) (by decide +kernel : decode k_R_row.2.1 44 = .ok (.iconst (-1), 1)) ic_m1) ?_
      cases h
      exact ⟨r_iret rfl (by decide +kernel : decode k_R_row.2.1 45 = .ok (.ireturn, 1)), hL⟩
    · refine ai (r_if_eq_f (pc := 15) 44 (by decide +kernel : decode k_R_row.2.1 15 = .ok (.ifCond .eq (29), 3)) (by decide) c6) ?_
      refine ai (r_iload_n (pc := 18) (k := 2) (by decide +kernel : decode k_R_row.2.1 18 = .ok (.iload_n 2, 1)) rfl rfl) ?_
      refine ai (r_iconst (pc := 19) (by decide +kernel : decode k_R_row.2.1 19 = .ok (.iconst 0, 1)) ic_0) ?_
      refine ai (r_sipush (pc := 20) (by decide +kernel : decode k_R_row.2.1 20 = .ok (.sipush (139), 3)) (by decide : _ = (139 : Int32))) ?_
      obtain ⟨r7, hr7, h⟩ := bp_some h
      refine ai (q_callS (pc := 23) (As := [.int x2, .int 0, .int 139]) (st := []) (st2 := [.int r7]) rfl rfl (by decide +kernel : decode k_R_row.2.1 23 = .ok (.invokestatic 433, 3)) lc_12_433 mo_R_in ⟨Nat.le_of_ble_eq_true rfl, Nat.le_of_ble_eq_true rfl⟩ (Nat.le_of_ble_eq_true rfl) (Nat.le_of_ble_eq_true rfl) (R_in_run hr7)) ?_
      rcases ite_some h with ⟨c8, h⟩ | ⟨c8, h⟩
      · refine ai (r_if_eq_t (pc := 26) (tgt := 44) (by decide +kernel : decode k_R_row.2.1 26 = .ok (.ifCond .eq (18), 3)) (by decide) c8) ?_
        refine ai (r_iconst (pc := 44) (by decide +kernel : decode k_R_row.2.1 44 = .ok (.iconst (-1), 1)) ic_m1) ?_
        cases h
        exact ⟨r_iret rfl (by decide +kernel : decode k_R_row.2.1 45 = .ok (.ireturn, 1)), hL⟩
      · refine ai (r_if_eq_f (pc := 26) 44 (by decide +kernel : decode k_R_row.2.1 26 = .ok (.ifCond .eq (18), 3)) (by decide) c8) ?_
        refine ai (r_iload_n (pc := 29) (k := 3) (by decide +kernel : decode k_R_row.2.1 29 = .ok (.iload_n 3, 1)) rfl rfl) ?_
        refine ai (r_iconst (pc := 30) (by decide +kernel : decode k_R_row.2.1 30 = .ok (.iconst (-1), 1)) ic_m1) ?_
        rcases ite_some h with ⟨c9, h⟩ | ⟨c9, h⟩
        · refine ai (r_icmp_eq_t (pc := 31) (tgt := 46) (by decide +kernel : decode k_R_row.2.1 31 = .ok (.if_icmp .eq (15), 3)) (by decide) c9) ?_
          exact (R_row_46_run hL h)
        · refine ai (r_icmp_eq_f (pc := 31) 46 (by decide +kernel : decode k_R_row.2.1 31 = .ok (.if_icmp .eq (15), 3)) (by decide) c9) ?_
          refine ai (r_iload_n (pc := 34) (k := 3) (by decide +kernel : decode k_R_row.2.1 34 = .ok (.iload_n 3, 1)) rfl rfl) ?_
          refine ai (r_iconst (pc := 35) (by decide +kernel : decode k_R_row.2.1 35 = .ok (.iconst 1, 1)) ic_1) ?_
          refine ai (r_bipush (pc := 36) (by decide +kernel : decode k_R_row.2.1 36 = .ok (.bipush (48), 2)) (by decide : _ = (48 : Int32))) ?_
          obtain ⟨r10, hr10, h⟩ := bp_some h
          refine ai (q_callS (pc := 38) (As := [.int x3, .int 1, .int 48]) (st := []) (st2 := [.int r10]) rfl rfl (by decide +kernel : decode k_R_row.2.1 38 = .ok (.invokestatic 433, 3)) lc_12_433 mo_R_in ⟨Nat.le_of_ble_eq_true rfl, Nat.le_of_ble_eq_true rfl⟩ (Nat.le_of_ble_eq_true rfl) (Nat.le_of_ble_eq_true rfl) (R_in_run hr10)) ?_
          rcases ite_some h with ⟨c11, h⟩ | ⟨c11, h⟩
          · refine ai (r_if_ne_f (pc := 41) 46 (by decide +kernel : decode k_R_row.2.1 41 = .ok (.ifCond .ne (5), 3)) (by decide) c11) ?_
            refine ai (r_iconst (pc := 44) (by decide +kernel : decode k_R_row.2.1 44 = .ok (.iconst (-1), 1)) ic_m1) ?_
            cases h
            exact ⟨r_iret rfl (by decide +kernel : decode k_R_row.2.1 45 = .ok (.ireturn, 1)), hL⟩
          · refine ai (r_if_ne_t (pc := 41) (tgt := 46) (by decide +kernel : decode k_R_row.2.1 41 = .ok (.ifCond .ne (5), 3)) (by decide) c11) ?_
            exact (R_row_46_run hL h)
set_option maxRecDepth 100000 in
set_option maxHeartbeats 4000000 in
theorem R_cell_run {x1 : Int32} {x2 : Int32} {m m' : Mem} {r : Int32} (hL : RL m) (h : R_cell x1 x2 m = some (r, m')) : Run k_R_cell 0 [(0, .ref 0), (1, .int x1), (2, .int x2)] [] m (some (.int r)) m' ∧ RL m' := by
  unfold R_cell at h
  refine ai (p_aload_n (pc := 0) (k := 0) (by decide +kernel : decode k_R_cell.2.1 0 = .ok (.aload_n 0, 1)) rfl rfl) ?_
  refine ai (r_getI (pc := 1) (by decide +kernel : decode k_R_cell.2.1 1 = .ok (.getfield 338, 3)) lg_12_338 (by decide) (RC_0 hL).1) ?_
  rcases ite_some h with ⟨c1, h⟩ | ⟨c1, h⟩
  · refine ai (r_if_eq_t (pc := 4) (tgt := 52) (by decide +kernel : decode k_R_cell.2.1 4 = .ok (.ifCond .eq (48), 3)) (by decide) c1) ?_
    refine ai (r_iconst (pc := 52) (by decide +kernel : decode k_R_cell.2.1 52 = .ok (.iconst 0, 1)) ic_0) ?_
    cases h
    exact ⟨r_zret (by decide) rfl (by decide +kernel : decode k_R_cell.2.1 53 = .ok (.ireturn, 1)), hL⟩
  · refine ai (r_if_eq_f (pc := 4) 52 (by decide +kernel : decode k_R_cell.2.1 4 = .ok (.ifCond .eq (48), 3)) (by decide) c1) ?_
    refine ai (p_aload_n (pc := 7) (k := 0) (by decide +kernel : decode k_R_cell.2.1 7 = .ok (.aload_n 0, 1)) rfl rfl) ?_
    refine ai (p_getr (pc := 8) (RR_1602_0 hL) (by decide +kernel : decode k_R_cell.2.1 8 = .ok (.getfield 149, 3)) lg_12_149 (RC_0 hL).1) ?_
    refine ai (p_aload_n (pc := 11) (k := 0) (by decide +kernel : decode k_R_cell.2.1 11 = .ok (.aload_n 0, 1)) rfl rfl) ?_
    refine ai (r_getI (pc := 12) (by decide +kernel : decode k_R_cell.2.1 12 = .ok (.getfield 338, 3)) lg_12_338 (by decide) (RC_0 hL).1) ?_
    refine ai (r_iconst (pc := 15) (by decide +kernel : decode k_R_cell.2.1 15 = .ok (.iconst 1, 1)) ic_1) ?_
    refine ai (r_isub (pc := 16) (by decide +kernel : decode k_R_cell.2.1 16 = .ok (.isub, 1))) ?_
    obtain ⟨g2, h⟩ := gd_some h
    refine ai (p_iald (pc := 17) (by decide +kernel : decode k_R_cell.2.1 17 = .ok (.iaload, 1)) (RC_44 hL).1 (RC_44 hL).2 g2) ?_
    refine ai (r_bipush (pc := 18) (by decide +kernel : decode k_R_cell.2.1 18 = .ok (.bipush (6), 2)) (by decide : _ = (6 : Int32))) ?_
    rcases ite_some h with ⟨c3, h⟩ | ⟨c3, h⟩
    · refine ai (r_icmp_ne_f (pc := 20) 52 (by decide +kernel : decode k_R_cell.2.1 20 = .ok (.if_icmp .ne (32), 3)) (by decide) c3) ?_
      refine ai (r_iload_n (pc := 23) (k := 1) (by decide +kernel : decode k_R_cell.2.1 23 = .ok (.iload_n 1, 1)) rfl rfl) ?_
      rcases ite_some h with ⟨c4, h⟩ | ⟨c4, h⟩
      · refine ai (r_if_lt_t (pc := 24) (tgt := 52) (by decide +kernel : decode k_R_cell.2.1 24 = .ok (.ifCond .lt (28), 3)) (by decide) c4) ?_
        refine ai (r_iconst (pc := 52) (by decide +kernel : decode k_R_cell.2.1 52 = .ok (.iconst 0, 1)) ic_0) ?_
        cases h
        exact ⟨r_zret (by decide) rfl (by decide +kernel : decode k_R_cell.2.1 53 = .ok (.ireturn, 1)), hL⟩
      · refine ai (r_if_lt_f (pc := 24) 52 (by decide +kernel : decode k_R_cell.2.1 24 = .ok (.ifCond .lt (28), 3)) (by decide) c4) ?_
        refine ai (r_iload_n (pc := 27) (k := 1) (by decide +kernel : decode k_R_cell.2.1 27 = .ok (.iload_n 1, 1)) rfl rfl) ?_
        refine ai (p_aload_n (pc := 28) (k := 0) (by decide +kernel : decode k_R_cell.2.1 28 = .ok (.aload_n 0, 1)) rfl rfl) ?_
        refine ai (p_getr (pc := 29) (RR_1606_0 hL) (by decide +kernel : decode k_R_cell.2.1 29 = .ok (.getfield 161, 3)) lg_12_161 (RC_0 hL).1) ?_
        refine ai (p_aload_n (pc := 32) (k := 0) (by decide +kernel : decode k_R_cell.2.1 32 = .ok (.aload_n 0, 1)) rfl rfl) ?_
        refine ai (r_getI (pc := 33) (by decide +kernel : decode k_R_cell.2.1 33 = .ok (.getfield 338, 3)) lg_12_338 (by decide) (RC_0 hL).1) ?_
        refine ai (r_iconst (pc := 36) (by decide +kernel : decode k_R_cell.2.1 36 = .ok (.iconst 1, 1)) ic_1) ?_
        refine ai (r_isub (pc := 37) (by decide +kernel : decode k_R_cell.2.1 37 = .ok (.isub, 1))) ?_
        obtain ⟨g5, h⟩ := gd_some h
        refine ai (p_iald (pc := 38) (by decide +kernel : decode k_R_cell.2.1 38 = .ok (.iaload, 1)) (RC_48 hL).1 (RC_48 hL).2 g5) ?_
        rcases ite_some h with ⟨c6, h⟩ | ⟨c6, h⟩
        · refine ai (r_icmp_ge_t (pc := 39) (tgt := 52) (by decide +kernel : decode k_R_cell.2.1 39 = .ok (.if_icmp .ge (13), 3)) (by decide) c6) ?_
          refine ai (r_iconst (pc := 52) (by decide +kernel : decode k_R_cell.2.1 52 = .ok (.iconst 0, 1)) ic_0) ?_
          cases h
          exact ⟨r_zret (by decide) rfl (by decide +kernel : decode k_R_cell.2.1 53 = .ok (.ireturn, 1)), hL⟩
        · refine ai (r_icmp_ge_f (pc := 39) 52 (by decide +kernel : decode k_R_cell.2.1 39 = .ok (.if_icmp .ge (13), 3)) (by decide) c6) ?_
          refine ai (r_iload_n (pc := 42) (k := 2) (by decide +kernel : decode k_R_cell.2.1 42 = .ok (.iload_n 2, 1)) rfl rfl) ?_
          refine ai (r_iconst (pc := 43) (by decide +kernel : decode k_R_cell.2.1 43 = .ok (.iconst (-1), 1)) ic_m1) ?_
          refine ai (r_bipush (pc := 44) (by decide +kernel : decode k_R_cell.2.1 44 = .ok (.bipush (16), 2)) (by decide : _ = (16 : Int32))) ?_
          obtain ⟨r7, hr7, h⟩ := bp_some h
          refine ai (q_callS (pc := 46) (As := [.int x2, .int (-1), .int 16]) (st := []) (st2 := [.int r7]) rfl rfl (by decide +kernel : decode k_R_cell.2.1 46 = .ok (.invokestatic 433, 3)) lc_12_433 mo_R_in ⟨Nat.le_of_ble_eq_true rfl, Nat.le_of_ble_eq_true rfl⟩ (Nat.le_of_ble_eq_true rfl) (Nat.le_of_ble_eq_true rfl) (R_in_run hr7)) ?_
          rcases ite_some h with ⟨c8, h⟩ | ⟨c8, h⟩
          · refine ai (r_if_ne_f (pc := 49) 54 (by decide +kernel : decode k_R_cell.2.1 49 = .ok (.ifCond .ne (5), 3)) (by decide) c8) ?_
            refine ai (r_iconst (pc := 52) (by decide +kernel : decode k_R_cell.2.1 52 = .ok (.iconst 0, 1)) ic_0) ?_
            cases h
            exact ⟨r_zret (by decide) rfl (by decide +kernel : decode k_R_cell.2.1 53 = .ok (.ireturn, 1)), hL⟩
          · refine ai (r_if_ne_t (pc := 49) (tgt := 54) (by decide +kernel : decode k_R_cell.2.1 49 = .ok (.ifCond .ne (5), 3)) (by decide) c8) ?_
            refine ai (p_aload_n (pc := 54) (k := 0) (by decide +kernel : decode k_R_cell.2.1 54 = .ok (.aload_n 0, 1)) rfl rfl) ?_
            refine ai (p_getr (pc := 55) (RR_1607_0 hL) (by decide +kernel : decode k_R_cell.2.1 55 = .ok (.getfield 164, 3)) lg_12_164 (RC_0 hL).1) ?_
            refine ai (r_bipush (pc := 58) (by decide +kernel : decode k_R_cell.2.1 58 = .ok (.bipush (48), 2)) (by decide : _ = (48 : Int32))) ?_
            refine ai (p_aload_n (pc := 60) (k := 0) (by decide +kernel : decode k_R_cell.2.1 60 = .ok (.aload_n 0, 1)) rfl rfl) ?_
            refine ai (r_getI (pc := 61) (by decide +kernel : decode k_R_cell.2.1 61 = .ok (.getfield 338, 3)) lg_12_338 (by decide) (RC_0 hL).1) ?_
            refine ai (r_iconst (pc := 64) (by decide +kernel : decode k_R_cell.2.1 64 = .ok (.iconst 1, 1)) ic_1) ?_
            refine ai (r_isub (pc := 65) (by decide +kernel : decode k_R_cell.2.1 65 = .ok (.isub, 1))) ?_
            refine ai (r_imul (pc := 66) (by decide +kernel : decode k_R_cell.2.1 66 = .ok (.imul, 1))) ?_
            refine ai (r_iload_n (pc := 67) (k := 1) (by decide +kernel : decode k_R_cell.2.1 67 = .ok (.iload_n 1, 1)) rfl rfl) ?_
            refine ai (r_iadd (pc := 68) (by decide +kernel : decode k_R_cell.2.1 68 = .ok (.iadd, 1))) ?_
            refine ai (r_iload_n (pc := 69) (k := 2) (by decide +kernel : decode k_R_cell.2.1 69 = .ok (.iload_n 2, 1)) rfl rfl) ?_
            obtain ⟨g9, h⟩ := gd_some h
            have c10 := (RC_49 hL).1
            have c11 := (RC_49 hL).2
            obtain ⟨m12, hm12, h⟩ := vb_some h
            have hL : RL m12 := by rw [hm12]; exact hL
            refine ai (p_iast (pc := 70) hm12 (by decide +kernel : decode k_R_cell.2.1 70 = .ok (.iastore, 1)) c10 c11 g9) ?_
            refine ai (p_aload_n (pc := 71) (k := 0) (by decide +kernel : decode k_R_cell.2.1 71 = .ok (.aload_n 0, 1)) rfl rfl) ?_
            obtain ⟨r13, m14, hr13, h⟩ := bn_some h
            have q15 := R_changed_run hL hr13
            have c16 := (RC_0 hL).1
            have hL := q15.2
            refine ai (q_callV (pc := 72) (As := []) (st := []) (st2 := []) (b := 0) rfl rfl (by decide +kernel : decode k_R_cell.2.1 72 = .ok (.invokevirtual 437, 3)) lc_12_437 mo_R_changed ⟨Nat.le_of_ble_eq_true rfl, Nat.le_of_ble_eq_true rfl⟩ (Nat.le_of_ble_eq_true rfl) (Nat.le_of_ble_eq_true rfl) c16 q15.1) ?_
            refine ai (r_iconst (pc := 75) (by decide +kernel : decode k_R_cell.2.1 75 = .ok (.iconst 1, 1)) ic_1) ?_
            cases h
            exact ⟨r_zret (by decide) rfl (by decide +kernel : decode k_R_cell.2.1 76 = .ok (.ireturn, 1)), hL⟩
    · refine ai (r_icmp_ne_t (pc := 20) (tgt := 52) (by decide +kernel : decode k_R_cell.2.1 20 = .ok (.if_icmp .ne (32), 3)) (by decide) c3) ?_
      refine ai (r_iconst (pc := 52) (by decide +kernel : decode k_R_cell.2.1 52 = .ok (.iconst 0, 1)) ic_0) ?_
      cases h
      exact ⟨r_zret (by decide) rfl (by decide +kernel : decode k_R_cell.2.1 53 = .ok (.ireturn, 1)), hL⟩
set_option maxRecDepth 100000 in
set_option maxHeartbeats 4000000 in
theorem R_textAt_run {x1 : Int32} {m m' : Mem} {r : Int32} (hL : RL m) (h : R_textAt x1 m = some (r, m')) : Run k_R_textAt 0 [(0, .ref 0), (1, .int x1)] [] m (some (.int r)) m' ∧ RL m' := by
  unfold R_textAt at h
  refine ai (r_iload_n (pc := 0) (k := 1) (by decide +kernel : decode k_R_textAt.2.1 0 = .ok (.iload_n 1, 1)) rfl rfl) ?_
  rcases ite_some h with ⟨c1, h⟩ | ⟨c1, h⟩
  · refine ai (r_if_lt_t (pc := 1) (tgt := 31) (by decide +kernel : decode k_R_textAt.2.1 1 = .ok (.ifCond .lt (30), 3)) (by decide) c1) ?_
    refine ai (r_iconst (pc := 31) (by decide +kernel : decode k_R_textAt.2.1 31 = .ok (.iconst (-1), 1)) ic_m1) ?_
    cases h
    exact ⟨r_iret rfl (by decide +kernel : decode k_R_textAt.2.1 32 = .ok (.ireturn, 1)), hL⟩
  · refine ai (r_if_lt_f (pc := 1) 31 (by decide +kernel : decode k_R_textAt.2.1 1 = .ok (.ifCond .lt (30), 3)) (by decide) c1) ?_
    refine ai (r_iload_n (pc := 4) (k := 1) (by decide +kernel : decode k_R_textAt.2.1 4 = .ok (.iload_n 1, 1)) rfl rfl) ?_
    refine ai (p_aload_n (pc := 5) (k := 0) (by decide +kernel : decode k_R_textAt.2.1 5 = .ok (.aload_n 0, 1)) rfl rfl) ?_
    refine ai (r_getI (pc := 6) (by decide +kernel : decode k_R_textAt.2.1 6 = .ok (.getfield 338, 3)) lg_12_338 (by decide) (RC_0 hL).1) ?_
    rcases ite_some h with ⟨c2, h⟩ | ⟨c2, h⟩
    · refine ai (r_icmp_ge_t (pc := 9) (tgt := 31) (by decide +kernel : decode k_R_textAt.2.1 9 = .ok (.if_icmp .ge (22), 3)) (by decide) c2) ?_
      refine ai (r_iconst (pc := 31) (by decide +kernel : decode k_R_textAt.2.1 31 = .ok (.iconst (-1), 1)) ic_m1) ?_
      cases h
      exact ⟨r_iret rfl (by decide +kernel : decode k_R_textAt.2.1 32 = .ok (.ireturn, 1)), hL⟩
    · refine ai (r_icmp_ge_f (pc := 9) 31 (by decide +kernel : decode k_R_textAt.2.1 9 = .ok (.if_icmp .ge (22), 3)) (by decide) c2) ?_
      refine ai (p_aload_n (pc := 12) (k := 0) (by decide +kernel : decode k_R_textAt.2.1 12 = .ok (.aload_n 0, 1)) rfl rfl) ?_
      refine ai (p_getr (pc := 13) (RR_1602_0 hL) (by decide +kernel : decode k_R_textAt.2.1 13 = .ok (.getfield 149, 3)) lg_12_149 (RC_0 hL).1) ?_
      refine ai (r_iload_n (pc := 16) (k := 1) (by decide +kernel : decode k_R_textAt.2.1 16 = .ok (.iload_n 1, 1)) rfl rfl) ?_
      obtain ⟨g3, h⟩ := gd_some h
      refine ai (p_iald (pc := 17) (by decide +kernel : decode k_R_textAt.2.1 17 = .ok (.iaload, 1)) (RC_44 hL).1 (RC_44 hL).2 g3) ?_
      refine ai (r_iconst (pc := 18) (by decide +kernel : decode k_R_textAt.2.1 18 = .ok (.iconst 4, 1)) ic_4) ?_
      rcases ite_some h with ⟨c4, h⟩ | ⟨c4, h⟩
      · refine ai (r_icmp_ge_t (pc := 19) (tgt := 31) (by decide +kernel : decode k_R_textAt.2.1 19 = .ok (.if_icmp .ge (12), 3)) (by decide) c4) ?_
        refine ai (r_iconst (pc := 31) (by decide +kernel : decode k_R_textAt.2.1 31 = .ok (.iconst (-1), 1)) ic_m1) ?_
        cases h
        exact ⟨r_iret rfl (by decide +kernel : decode k_R_textAt.2.1 32 = .ok (.ireturn, 1)), hL⟩
      · refine ai (r_icmp_ge_f (pc := 19) 31 (by decide +kernel : decode k_R_textAt.2.1 19 = .ok (.if_icmp .ge (12), 3)) (by decide) c4) ?_
        refine ai (p_aload_n (pc := 22) (k := 0) (by decide +kernel : decode k_R_textAt.2.1 22 = .ok (.aload_n 0, 1)) rfl rfl) ?_
        refine ai (p_getr (pc := 23) (RR_1603_0 hL) (by decide +kernel : decode k_R_textAt.2.1 23 = .ok (.getfield 152, 3)) lg_12_152 (RC_0 hL).1) ?_
        refine ai (r_iload_n (pc := 26) (k := 1) (by decide +kernel : decode k_R_textAt.2.1 26 = .ok (.iload_n 1, 1)) rfl rfl) ?_
        obtain ⟨g5, h⟩ := gd_some h
        refine ai (p_iald (pc := 27) (by decide +kernel : decode k_R_textAt.2.1 27 = .ok (.iaload, 1)) (RC_45 hL).1 (RC_45 hL).2 g5) ?_
        refine ai (r_goto (pc := 28) (tgt := 32) (by decide +kernel : decode k_R_textAt.2.1 28 = .ok (.goto (4), 3)) (by decide)) ?_
        cases h
        exact ⟨r_iret rfl (by decide +kernel : decode k_R_textAt.2.1 32 = .ok (.ireturn, 1)), hL⟩
set_option maxRecDepth 100000 in
set_option maxHeartbeats 4000000 in
theorem R_tells_run {x1 : Int32} {x2 : Int32} {x3 : Int32} {x4 : Int32} {m m' : Mem} {r : Int32} (hL : RL m) (h : R_tells x1 x2 x3 x4 m = some (r, m')) : Run k_R_tells 0 [(0, .ref 0), (1, .int x1), (2, .int x2), (3, .int x3), (4, .int x4)] [] m (some (.int r)) m' ∧ RL m' := by
  unfold R_tells at h
  refine ai (p_aload_n (pc := 0) (k := 0) (by decide +kernel : decode k_R_tells.2.1 0 = .ok (.aload_n 0, 1)) rfl rfl) ?_
  refine ai (r_getI (pc := 1) (by decide +kernel : decode k_R_tells.2.1 1 = .ok (.getfield 338, 3)) lg_12_338 (by decide) (RC_0 hL).1) ?_
  refine ai (r_sipush (pc := 4) (by decide +kernel : decode k_R_tells.2.1 4 = .ok (.sipush (160), 3)) (by decide : _ = (160 : Int32))) ?_
  rcases ite_some h with ⟨c1, h⟩ | ⟨c1, h⟩
  · refine ai (r_icmp_eq_t (pc := 7) (tgt := 54) (by decide +kernel : decode k_R_tells.2.1 7 = .ok (.if_icmp .eq (47), 3)) (by decide) c1) ?_
    refine ai (r_iconst (pc := 54) (by decide +kernel : decode k_R_tells.2.1 54 = .ok (.iconst (-1), 1)) ic_m1) ?_
    cases h
    exact ⟨r_iret rfl (by decide +kernel : decode k_R_tells.2.1 55 = .ok (.ireturn, 1)), hL⟩
  · refine ai (r_icmp_eq_f (pc := 7) 54 (by decide +kernel : decode k_R_tells.2.1 7 = .ok (.if_icmp .eq (47), 3)) (by decide) c1) ?_
    refine ai (p_aload_n (pc := 10) (k := 0) (by decide +kernel : decode k_R_tells.2.1 10 = .ok (.aload_n 0, 1)) rfl rfl) ?_
    refine ai (r_iload_n (pc := 11) (k := 2) (by decide +kernel : decode k_R_tells.2.1 11 = .ok (.iload_n 2, 1)) rfl rfl) ?_
    obtain ⟨r2, m3, hr2, h⟩ := bn_some h
    have q4 := R_textAt_run hL hr2
    have c5 := (RC_0 hL).1
    have hL := q4.2
    refine ai (q_callV (pc := 12) (As := [.int x2]) (st := []) (st2 := [.int r2]) (b := 0) rfl rfl (by decide +kernel : decode k_R_tells.2.1 12 = .ok (.invokevirtual 446, 3)) lc_12_446 mo_R_textAt ⟨Nat.le_of_ble_eq_true rfl, Nat.le_of_ble_eq_true rfl⟩ (Nat.le_of_ble_eq_true rfl) (Nat.le_of_ble_eq_true rfl) c5 q4.1) ?_
    refine ai (r_iconst (pc := 15) (by decide +kernel : decode k_R_tells.2.1 15 = .ok (.iconst (-1), 1)) ic_m1) ?_
    rcases ite_some h with ⟨c6, h⟩ | ⟨c6, h⟩
    · refine ai (r_icmp_eq_t (pc := 16) (tgt := 54) (by decide +kernel : decode k_R_tells.2.1 16 = .ok (.if_icmp .eq (38), 3)) (by decide) c6) ?_
      refine ai (r_iconst (pc := 54) (by decide +kernel : decode k_R_tells.2.1 54 = .ok (.iconst (-1), 1)) ic_m1) ?_
      cases h
      exact ⟨r_iret rfl (by decide +kernel : decode k_R_tells.2.1 55 = .ok (.ireturn, 1)), hL⟩
    · refine ai (r_icmp_eq_f (pc := 16) 54 (by decide +kernel : decode k_R_tells.2.1 16 = .ok (.if_icmp .eq (38), 3)) (by decide) c6) ?_
      refine ai (p_aload_n (pc := 19) (k := 0) (by decide +kernel : decode k_R_tells.2.1 19 = .ok (.aload_n 0, 1)) rfl rfl) ?_
      refine ai (p_getr (pc := 20) (RR_1602_0 hL) (by decide +kernel : decode k_R_tells.2.1 20 = .ok (.getfield 149, 3)) lg_12_149 (RC_0 hL).1) ?_
      refine ai (r_iload_n (pc := 23) (k := 2) (by decide +kernel : decode k_R_tells.2.1 23 = .ok (.iload_n 2, 1)) rfl rfl) ?_
      obtain ⟨g7, h⟩ := gd_some h
      refine ai (p_iald (pc := 24) (by decide +kernel : decode k_R_tells.2.1 24 = .ok (.iaload, 1)) (RC_44 hL).1 (RC_44 hL).2 g7) ?_
      rcases ite_some h with ⟨c8, h⟩ | ⟨c8, h⟩
      · refine ai (r_if_ne_f (pc := 25) 54 (by decide +kernel : decode k_R_tells.2.1 25 = .ok (.ifCond .ne (29), 3)) (by decide) c8) ?_
        refine ai (r_iload_n (pc := 28) (k := 3) (by decide +kernel : decode k_R_tells.2.1 28 = .ok (.iload_n 3, 1)) rfl rfl) ?_
        refine ai (r_iconst (pc := 29) (by decide +kernel : decode k_R_tells.2.1 29 = .ok (.iconst 0, 1)) ic_0) ?_
        refine ai (p_aload_n (pc := 30) (k := 0) (by decide +kernel : decode k_R_tells.2.1 30 = .ok (.aload_n 0, 1)) rfl rfl) ?_
        refine ai (r_getI (pc := 31) (by decide +kernel : decode k_R_tells.2.1 31 = .ok (.getfield 359, 3)) lg_12_359 (by decide) (RC_0 hL).1) ?_
        refine ai (r_iconst (pc := 34) (by decide +kernel : decode k_R_tells.2.1 34 = .ok (.iconst 1, 1)) ic_1) ?_
        refine ai (r_isub (pc := 35) (by decide +kernel : decode k_R_tells.2.1 35 = .ok (.isub, 1))) ?_
        obtain ⟨r9, hr9, h⟩ := bp_some h
        refine ai (q_callS (pc := 36) (As := [.int x3, .int 0, .int ((mI m3 1584 0) - 1)]) (st := []) (st2 := [.int r9]) rfl rfl (by decide +kernel : decode k_R_tells.2.1 36 = .ok (.invokestatic 433, 3)) lc_12_433 mo_R_in ⟨Nat.le_of_ble_eq_true rfl, Nat.le_of_ble_eq_true rfl⟩ (Nat.le_of_ble_eq_true rfl) (Nat.le_of_ble_eq_true rfl) (R_in_run hr9)) ?_
        rcases ite_some h with ⟨c10, h⟩ | ⟨c10, h⟩
        · refine ai (r_if_eq_t (pc := 39) (tgt := 54) (by decide +kernel : decode k_R_tells.2.1 39 = .ok (.ifCond .eq (15), 3)) (by decide) c10) ?_
          refine ai (r_iconst (pc := 54) (by decide +kernel : decode k_R_tells.2.1 54 = .ok (.iconst (-1), 1)) ic_m1) ?_
          cases h
          exact ⟨r_iret rfl (by decide +kernel : decode k_R_tells.2.1 55 = .ok (.ireturn, 1)), hL⟩
        · refine ai (r_if_eq_f (pc := 39) 54 (by decide +kernel : decode k_R_tells.2.1 39 = .ok (.ifCond .eq (15), 3)) (by decide) c10) ?_
          refine ai (r_iload (pc := 42) (k := 4) (by decide +kernel : decode k_R_tells.2.1 42 = .ok (.iload 4, 2)) rfl) ?_
          refine ai (r_iconst (pc := 44) (by decide +kernel : decode k_R_tells.2.1 44 = .ok (.iconst 0, 1)) ic_0) ?_
          refine ai (r_sipush (pc := 45) (by decide +kernel : decode k_R_tells.2.1 45 = .ok (.sipush (9999), 3)) (by decide : _ = (9999 : Int32))) ?_
          obtain ⟨r11, hr11, h⟩ := bp_some h
          refine ai (q_callS (pc := 48) (As := [.int x4, .int 0, .int 9999]) (st := []) (st2 := [.int r11]) rfl rfl (by decide +kernel : decode k_R_tells.2.1 48 = .ok (.invokestatic 433, 3)) lc_12_433 mo_R_in ⟨Nat.le_of_ble_eq_true rfl, Nat.le_of_ble_eq_true rfl⟩ (Nat.le_of_ble_eq_true rfl) (Nat.le_of_ble_eq_true rfl) (R_in_run hr11)) ?_
          rcases ite_some h with ⟨c12, h⟩ | ⟨c12, h⟩
          · refine ai (r_if_ne_f (pc := 51) 56 (by decide +kernel : decode k_R_tells.2.1 51 = .ok (.ifCond .ne (5), 3)) (by decide) c12) ?_
            refine ai (r_iconst (pc := 54) (by decide +kernel : decode k_R_tells.2.1 54 = .ok (.iconst (-1), 1)) ic_m1) ?_
            cases h
            exact ⟨r_iret rfl (by decide +kernel : decode k_R_tells.2.1 55 = .ok (.ireturn, 1)), hL⟩
          · refine ai (r_if_ne_t (pc := 51) (tgt := 56) (by decide +kernel : decode k_R_tells.2.1 51 = .ok (.ifCond .ne (5), 3)) (by decide) c12) ?_
            refine ai (p_aload_n (pc := 56) (k := 0) (by decide +kernel : decode k_R_tells.2.1 56 = .ok (.aload_n 0, 1)) rfl rfl) ?_
            refine ai (r_iload_n (pc := 57) (k := 1) (by decide +kernel : decode k_R_tells.2.1 57 = .ok (.iload_n 1, 1)) rfl rfl) ?_
            refine ai (r_iload_n (pc := 58) (k := 2) (by decide +kernel : decode k_R_tells.2.1 58 = .ok (.iload_n 2, 1)) rfl rfl) ?_
            refine ai (r_iload_n (pc := 59) (k := 3) (by decide +kernel : decode k_R_tells.2.1 59 = .ok (.iload_n 3, 1)) rfl rfl) ?_
            refine ai (r_iconst (pc := 60) (by decide +kernel : decode k_R_tells.2.1 60 = .ok (.iconst 0, 1)) ic_0) ?_
            refine ai (r_iload (pc := 61) (k := 4) (by decide +kernel : decode k_R_tells.2.1 61 = .ok (.iload 4, 2)) rfl) ?_
            obtain ⟨r13, m14, hr13, h⟩ := bn_some h
            have q15 := R_fact_run hL hr13
            have c16 := (RC_0 hL).1
            have hL := q15.2
            refine ai (q_callV (pc := 63) (As := [.int x1, .int x2, .int x3, .int 0, .int x4]) (st := []) (st2 := [.int r13]) (b := 0) rfl rfl (by decide +kernel : decode k_R_tells.2.1 63 = .ok (.invokevirtual 378, 3)) lc_12_378 mo_R_fact ⟨Nat.le_of_ble_eq_true rfl, Nat.le_of_ble_eq_true rfl⟩ (Nat.le_of_ble_eq_true rfl) (Nat.le_of_ble_eq_true rfl) c16 q15.1) ?_
            cases h
            exact ⟨r_iret rfl (by decide +kernel : decode k_R_tells.2.1 66 = .ok (.ireturn, 1)), hL⟩
      · refine ai (r_if_ne_t (pc := 25) (tgt := 54) (by decide +kernel : decode k_R_tells.2.1 25 = .ok (.ifCond .ne (29), 3)) (by decide) c8) ?_
        refine ai (r_iconst (pc := 54) (by decide +kernel : decode k_R_tells.2.1 54 = .ok (.iconst (-1), 1)) ic_m1) ?_
        cases h
        exact ⟨r_iret rfl (by decide +kernel : decode k_R_tells.2.1 55 = .ok (.ireturn, 1)), hL⟩
set_option maxRecDepth 100000 in
set_option maxHeartbeats 4000000 in
theorem R_log_run {x1 : Int32} {x2 : Int32} {x3 : Int32} {m m' : Mem} {r : Int32} (hL : RL m) (h : R_log x1 x2 x3 m = some (r, m')) : Run k_R_log 0 [(0, .ref 0), (1, .int x1), (2, .int x2), (3, .int x3)] [] m (some (.int r)) m' ∧ RL m' := by
  unfold R_log at h
  refine ai (p_aload_n (pc := 0) (k := 0) (by decide +kernel : decode k_R_log.2.1 0 = .ok (.aload_n 0, 1)) rfl rfl) ?_
  refine ai (r_bipush (pc := 1) (by decide +kernel : decode k_R_log.2.1 1 = .ok (.bipush (7), 2)) (by decide : _ = (7 : Int32))) ?_
  refine ai (r_iload_n (pc := 3) (k := 1) (by decide +kernel : decode k_R_log.2.1 3 = .ok (.iload_n 1, 1)) rfl rfl) ?_
  refine ai (r_iload_n (pc := 4) (k := 2) (by decide +kernel : decode k_R_log.2.1 4 = .ok (.iload_n 2, 1)) rfl rfl) ?_
  refine ai (r_iload_n (pc := 5) (k := 3) (by decide +kernel : decode k_R_log.2.1 5 = .ok (.iload_n 3, 1)) rfl rfl) ?_
  obtain ⟨r1, m2, hr1, h⟩ := bn_some h
  have q3 := R_tells_run hL hr1
  have c4 := (RC_0 hL).1
  have hL := q3.2
  refine ai (q_callV (pc := 6) (As := [.int 7, .int x1, .int x2, .int x3]) (st := []) (st2 := [.int r1]) (b := 0) rfl rfl (by decide +kernel : decode k_R_log.2.1 6 = .ok (.invokevirtual 449, 3)) lc_12_449 mo_R_tells ⟨Nat.le_of_ble_eq_true rfl, Nat.le_of_ble_eq_true rfl⟩ (Nat.le_of_ble_eq_true rfl) (Nat.le_of_ble_eq_true rfl) c4 q3.1) ?_
  cases h
  exact ⟨r_iret rfl (by decide +kernel : decode k_R_log.2.1 9 = .ok (.ireturn, 1)), hL⟩
set_option maxRecDepth 100000 in
set_option maxHeartbeats 4000000 in
theorem R_answer_run {x1 : Int32} {x2 : Int32} {x3 : Int32} {m m' : Mem} {r : Int32} (hL : RL m) (h : R_answer x1 x2 x3 m = some (r, m')) : Run k_R_answer 0 [(0, .ref 0), (1, .int x1), (2, .int x2), (3, .int x3)] [] m (some (.int r)) m' ∧ RL m' := by
  unfold R_answer at h
  refine ai (p_aload_n (pc := 0) (k := 0) (by decide +kernel : decode k_R_answer.2.1 0 = .ok (.aload_n 0, 1)) rfl rfl) ?_
  refine ai (r_bipush (pc := 1) (by decide +kernel : decode k_R_answer.2.1 1 = .ok (.bipush (8), 2)) (by decide : _ = (8 : Int32))) ?_
  refine ai (r_iload_n (pc := 3) (k := 1) (by decide +kernel : decode k_R_answer.2.1 3 = .ok (.iload_n 1, 1)) rfl rfl) ?_
  refine ai (r_iload_n (pc := 4) (k := 2) (by decide +kernel : decode k_R_answer.2.1 4 = .ok (.iload_n 2, 1)) rfl rfl) ?_
  refine ai (r_iload_n (pc := 5) (k := 3) (by decide +kernel : decode k_R_answer.2.1 5 = .ok (.iload_n 3, 1)) rfl rfl) ?_
  obtain ⟨r1, m2, hr1, h⟩ := bn_some h
  have q3 := R_tells_run hL hr1
  have c4 := (RC_0 hL).1
  have hL := q3.2
  refine ai (q_callV (pc := 6) (As := [.int 8, .int x1, .int x2, .int x3]) (st := []) (st2 := [.int r1]) (b := 0) rfl rfl (by decide +kernel : decode k_R_answer.2.1 6 = .ok (.invokevirtual 449, 3)) lc_12_449 mo_R_tells ⟨Nat.le_of_ble_eq_true rfl, Nat.le_of_ble_eq_true rfl⟩ (Nat.le_of_ble_eq_true rfl) (Nat.le_of_ble_eq_true rfl) c4 q3.1) ?_
  cases h
  exact ⟨r_iret rfl (by decide +kernel : decode k_R_answer.2.1 9 = .ok (.ireturn, 1)), hL⟩
set_option maxRecDepth 100000 in
set_option maxHeartbeats 4000000 in
theorem R_paid_run {x1 : Int32} {x2 : Int32} {x3 : Int32} {m m' : Mem} {r : Int32} (hL : RL m) (h : R_paid x1 x2 x3 m = some (r, m')) : Run k_R_paid 0 [(0, .ref 0), (1, .int x1), (2, .int x2), (3, .int x3)] [] m (some (.int r)) m' ∧ RL m' := by
  unfold R_paid at h
  refine ai (p_aload_n (pc := 0) (k := 0) (by decide +kernel : decode k_R_paid.2.1 0 = .ok (.aload_n 0, 1)) rfl rfl) ?_
  refine ai (r_getI (pc := 1) (by decide +kernel : decode k_R_paid.2.1 1 = .ok (.getfield 338, 3)) lg_12_338 (by decide) (RC_0 hL).1) ?_
  refine ai (r_sipush (pc := 4) (by decide +kernel : decode k_R_paid.2.1 4 = .ok (.sipush (160), 3)) (by decide : _ = (160 : Int32))) ?_
  rcases ite_some h with ⟨c1, h⟩ | ⟨c1, h⟩
  · refine ai (r_icmp_eq_t (pc := 7) (tgt := 41) (by decide +kernel : decode k_R_paid.2.1 7 = .ok (.if_icmp .eq (34), 3)) (by decide) c1) ?_
    refine ai (r_iconst (pc := 41) (by decide +kernel : decode k_R_paid.2.1 41 = .ok (.iconst (-1), 1)) ic_m1) ?_
    refine ai (r_goto (pc := 42) (tgt := 55) (by decide +kernel : decode k_R_paid.2.1 42 = .ok (.goto (13), 3)) (by decide)) ?_
    cases h
    exact ⟨r_iret rfl (by decide +kernel : decode k_R_paid.2.1 55 = .ok (.ireturn, 1)), hL⟩
  · refine ai (r_icmp_eq_f (pc := 7) 41 (by decide +kernel : decode k_R_paid.2.1 7 = .ok (.if_icmp .eq (34), 3)) (by decide) c1) ?_
    refine ai (p_aload_n (pc := 10) (k := 0) (by decide +kernel : decode k_R_paid.2.1 10 = .ok (.aload_n 0, 1)) rfl rfl) ?_
    refine ai (r_iload_n (pc := 11) (k := 1) (by decide +kernel : decode k_R_paid.2.1 11 = .ok (.iload_n 1, 1)) rfl rfl) ?_
    obtain ⟨r2, m3, hr2, h⟩ := bn_some h
    have q4 := R_isPerson_run hL hr2
    have c5 := (RC_0 hL).1
    have hL := q4.2
    refine ai (q_callV (pc := 12) (As := [.int x1]) (st := []) (st2 := [.int r2]) (b := 0) rfl rfl (by decide +kernel : decode k_R_paid.2.1 12 = .ok (.invokevirtual 443, 3)) lc_12_443 mo_R_isPerson ⟨Nat.le_of_ble_eq_true rfl, Nat.le_of_ble_eq_true rfl⟩ (Nat.le_of_ble_eq_true rfl) (Nat.le_of_ble_eq_true rfl) c5 q4.1) ?_
    rcases ite_some h with ⟨c6, h⟩ | ⟨c6, h⟩
    · refine ai (r_if_eq_t (pc := 15) (tgt := 41) (by decide +kernel : decode k_R_paid.2.1 15 = .ok (.ifCond .eq (26), 3)) (by decide) c6) ?_
      refine ai (r_iconst (pc := 41) (by decide +kernel : decode k_R_paid.2.1 41 = .ok (.iconst (-1), 1)) ic_m1) ?_
      refine ai (r_goto (pc := 42) (tgt := 55) (by decide +kernel : decode k_R_paid.2.1 42 = .ok (.goto (13), 3)) (by decide)) ?_
      cases h
      exact ⟨r_iret rfl (by decide +kernel : decode k_R_paid.2.1 55 = .ok (.ireturn, 1)), hL⟩
    · refine ai (r_if_eq_f (pc := 15) 41 (by decide +kernel : decode k_R_paid.2.1 15 = .ok (.ifCond .eq (26), 3)) (by decide) c6) ?_
      refine ai (r_iload_n (pc := 18) (k := 2) (by decide +kernel : decode k_R_paid.2.1 18 = .ok (.iload_n 2, 1)) rfl rfl) ?_
      refine ai (r_iconst (pc := 19) (by decide +kernel : decode k_R_paid.2.1 19 = .ok (.iconst 0, 1)) ic_0) ?_
      refine ai (r_bipush (pc := 20) (by decide +kernel : decode k_R_paid.2.1 20 = .ok (.bipush (19), 2)) (by decide : _ = (19 : Int32))) ?_
      obtain ⟨r7, hr7, h⟩ := bp_some h
      refine ai (q_callS (pc := 22) (As := [.int x2, .int 0, .int 19]) (st := []) (st2 := [.int r7]) rfl rfl (by decide +kernel : decode k_R_paid.2.1 22 = .ok (.invokestatic 433, 3)) lc_12_433 mo_R_in ⟨Nat.le_of_ble_eq_true rfl, Nat.le_of_ble_eq_true rfl⟩ (Nat.le_of_ble_eq_true rfl) (Nat.le_of_ble_eq_true rfl) (R_in_run hr7)) ?_
      rcases ite_some h with ⟨c8, h⟩ | ⟨c8, h⟩
      · refine ai (r_if_eq_t (pc := 25) (tgt := 41) (by decide +kernel : decode k_R_paid.2.1 25 = .ok (.ifCond .eq (16), 3)) (by decide) c8) ?_
        refine ai (r_iconst (pc := 41) (by decide +kernel : decode k_R_paid.2.1 41 = .ok (.iconst (-1), 1)) ic_m1) ?_
        refine ai (r_goto (pc := 42) (tgt := 55) (by decide +kernel : decode k_R_paid.2.1 42 = .ok (.goto (13), 3)) (by decide)) ?_
        cases h
        exact ⟨r_iret rfl (by decide +kernel : decode k_R_paid.2.1 55 = .ok (.ireturn, 1)), hL⟩
      · refine ai (r_if_eq_f (pc := 25) 41 (by decide +kernel : decode k_R_paid.2.1 25 = .ok (.ifCond .eq (16), 3)) (by decide) c8) ?_
        refine ai (r_iload_n (pc := 28) (k := 3) (by decide +kernel : decode k_R_paid.2.1 28 = .ok (.iload_n 3, 1)) rfl rfl) ?_
        refine ai (r_ldc_w (pc := 29) (by decide +kernel : decode k_R_paid.2.1 29 = .ok (.ldc_w 453, 3)) lk_12_453) ?_
        refine ai (r_ldc_w (pc := 32) (by decide +kernel : decode k_R_paid.2.1 32 = .ok (.ldc_w 454, 3)) lk_12_454) ?_
        obtain ⟨r9, hr9, h⟩ := bp_some h
        refine ai (q_callS (pc := 35) (As := [.int x3, .int (-99999), .int 99999]) (st := []) (st2 := [.int r9]) rfl rfl (by decide +kernel : decode k_R_paid.2.1 35 = .ok (.invokestatic 433, 3)) lc_12_433 mo_R_in ⟨Nat.le_of_ble_eq_true rfl, Nat.le_of_ble_eq_true rfl⟩ (Nat.le_of_ble_eq_true rfl) (Nat.le_of_ble_eq_true rfl) (R_in_run hr9)) ?_
        rcases ite_some h with ⟨c10, h⟩ | ⟨c10, h⟩
        · refine ai (r_if_ne_f (pc := 38) 45 (by decide +kernel : decode k_R_paid.2.1 38 = .ok (.ifCond .ne (7), 3)) (by decide) c10) ?_
          refine ai (r_iconst (pc := 41) (by decide +kernel : decode k_R_paid.2.1 41 = .ok (.iconst (-1), 1)) ic_m1) ?_
          refine ai (r_goto (pc := 42) (tgt := 55) (by decide +kernel : decode k_R_paid.2.1 42 = .ok (.goto (13), 3)) (by decide)) ?_
          cases h
          exact ⟨r_iret rfl (by decide +kernel : decode k_R_paid.2.1 55 = .ok (.ireturn, 1)), hL⟩
        · refine ai (r_if_ne_t (pc := 38) (tgt := 45) (by decide +kernel : decode k_R_paid.2.1 38 = .ok (.ifCond .ne (7), 3)) (by decide) c10) ?_
          refine ai (p_aload_n (pc := 45) (k := 0) (by decide +kernel : decode k_R_paid.2.1 45 = .ok (.aload_n 0, 1)) rfl rfl) ?_
          refine ai (r_bipush (pc := 46) (by decide +kernel : decode k_R_paid.2.1 46 = .ok (.bipush (9), 2)) (by decide : _ = (9 : Int32))) ?_
          refine ai (r_iload_n (pc := 48) (k := 1) (by decide +kernel : decode k_R_paid.2.1 48 = .ok (.iload_n 1, 1)) rfl rfl) ?_
          refine ai (r_iload_n (pc := 49) (k := 2) (by decide +kernel : decode k_R_paid.2.1 49 = .ok (.iload_n 2, 1)) rfl rfl) ?_
          refine ai (r_iconst (pc := 50) (by decide +kernel : decode k_R_paid.2.1 50 = .ok (.iconst 0, 1)) ic_0) ?_
          refine ai (r_iload_n (pc := 51) (k := 3) (by decide +kernel : decode k_R_paid.2.1 51 = .ok (.iload_n 3, 1)) rfl rfl) ?_
          obtain ⟨r11, m12, hr11, h⟩ := bn_some h
          have q13 := R_fact_run hL hr11
          have c14 := (RC_0 hL).1
          have hL := q13.2
          refine ai (q_callV (pc := 52) (As := [.int 9, .int x1, .int x2, .int 0, .int x3]) (st := []) (st2 := [.int r11]) (b := 0) rfl rfl (by decide +kernel : decode k_R_paid.2.1 52 = .ok (.invokevirtual 378, 3)) lc_12_378 mo_R_fact ⟨Nat.le_of_ble_eq_true rfl, Nat.le_of_ble_eq_true rfl⟩ (Nat.le_of_ble_eq_true rfl) (Nat.le_of_ble_eq_true rfl) c14 q13.1) ?_
          cases h
          exact ⟨r_iret rfl (by decide +kernel : decode k_R_paid.2.1 55 = .ok (.ireturn, 1)), hL⟩
set_option maxRecDepth 100000 in
set_option maxHeartbeats 4000000 in
theorem R_stay_run {x1 : Int32} {x2 : Int32} {x3 : Int32} {m m' : Mem} {r : Int32} (hL : RL m) (h : R_stay x1 x2 x3 m = some (r, m')) : Run k_R_stay 0 [(0, .ref 0), (1, .int x1), (2, .int x2), (3, .int x3)] [] m (some (.int r)) m' ∧ RL m' := by
  unfold R_stay at h
  refine ai (p_aload_n (pc := 0) (k := 0) (by decide +kernel : decode k_R_stay.2.1 0 = .ok (.aload_n 0, 1)) rfl rfl) ?_
  refine ai (r_getI (pc := 1) (by decide +kernel : decode k_R_stay.2.1 1 = .ok (.getfield 338, 3)) lg_12_338 (by decide) (RC_0 hL).1) ?_
  refine ai (r_sipush (pc := 4) (by decide +kernel : decode k_R_stay.2.1 4 = .ok (.sipush (160), 3)) (by decide : _ = (160 : Int32))) ?_
  rcases ite_some h with ⟨c1, h⟩ | ⟨c1, h⟩
  · refine ai (r_icmp_eq_t (pc := 7) (tgt := 35) (by decide +kernel : decode k_R_stay.2.1 7 = .ok (.if_icmp .eq (28), 3)) (by decide) c1) ?_
    refine ai (r_iconst (pc := 35) (by decide +kernel : decode k_R_stay.2.1 35 = .ok (.iconst (-1), 1)) ic_m1) ?_
    refine ai (r_goto (pc := 36) (tgt := 49) (by decide +kernel : decode k_R_stay.2.1 36 = .ok (.goto (13), 3)) (by decide)) ?_
    cases h
    exact ⟨r_iret rfl (by decide +kernel : decode k_R_stay.2.1 49 = .ok (.ireturn, 1)), hL⟩
  · refine ai (r_icmp_eq_f (pc := 7) 35 (by decide +kernel : decode k_R_stay.2.1 7 = .ok (.if_icmp .eq (28), 3)) (by decide) c1) ?_
    refine ai (p_aload_n (pc := 10) (k := 0) (by decide +kernel : decode k_R_stay.2.1 10 = .ok (.aload_n 0, 1)) rfl rfl) ?_
    refine ai (r_iload_n (pc := 11) (k := 1) (by decide +kernel : decode k_R_stay.2.1 11 = .ok (.iload_n 1, 1)) rfl rfl) ?_
    obtain ⟨r2, m3, hr2, h⟩ := bn_some h
    have q4 := R_textAt_run hL hr2
    have c5 := (RC_0 hL).1
    have hL := q4.2
    refine ai (q_callV (pc := 12) (As := [.int x1]) (st := []) (st2 := [.int r2]) (b := 0) rfl rfl (by decide +kernel : decode k_R_stay.2.1 12 = .ok (.invokevirtual 446, 3)) lc_12_446 mo_R_textAt ⟨Nat.le_of_ble_eq_true rfl, Nat.le_of_ble_eq_true rfl⟩ (Nat.le_of_ble_eq_true rfl) (Nat.le_of_ble_eq_true rfl) c5 q4.1) ?_
    refine ai (r_iconst (pc := 15) (by decide +kernel : decode k_R_stay.2.1 15 = .ok (.iconst (-1), 1)) ic_m1) ?_
    rcases ite_some h with ⟨c6, h⟩ | ⟨c6, h⟩
    · refine ai (r_icmp_eq_t (pc := 16) (tgt := 35) (by decide +kernel : decode k_R_stay.2.1 16 = .ok (.if_icmp .eq (19), 3)) (by decide) c6) ?_
      refine ai (r_iconst (pc := 35) (by decide +kernel : decode k_R_stay.2.1 35 = .ok (.iconst (-1), 1)) ic_m1) ?_
      refine ai (r_goto (pc := 36) (tgt := 49) (by decide +kernel : decode k_R_stay.2.1 36 = .ok (.goto (13), 3)) (by decide)) ?_
      cases h
      exact ⟨r_iret rfl (by decide +kernel : decode k_R_stay.2.1 49 = .ok (.ireturn, 1)), hL⟩
    · refine ai (r_icmp_eq_f (pc := 16) 35 (by decide +kernel : decode k_R_stay.2.1 16 = .ok (.if_icmp .eq (19), 3)) (by decide) c6) ?_
      refine ai (r_iload_n (pc := 19) (k := 2) (by decide +kernel : decode k_R_stay.2.1 19 = .ok (.iload_n 2, 1)) rfl rfl) ?_
      rcases ite_some h with ⟨c7, h⟩ | ⟨c7, h⟩
      · refine ai (r_if_lt_t (pc := 20) (tgt := 35) (by decide +kernel : decode k_R_stay.2.1 20 = .ok (.ifCond .lt (15), 3)) (by decide) c7) ?_
        refine ai (r_iconst (pc := 35) (by decide +kernel : decode k_R_stay.2.1 35 = .ok (.iconst (-1), 1)) ic_m1) ?_
        refine ai (r_goto (pc := 36) (tgt := 49) (by decide +kernel : decode k_R_stay.2.1 36 = .ok (.goto (13), 3)) (by decide)) ?_
        cases h
        exact ⟨r_iret rfl (by decide +kernel : decode k_R_stay.2.1 49 = .ok (.ireturn, 1)), hL⟩
      · refine ai (r_if_lt_f (pc := 20) 35 (by decide +kernel : decode k_R_stay.2.1 20 = .ok (.ifCond .lt (15), 3)) (by decide) c7) ?_
        refine ai (r_iload_n (pc := 23) (k := 2) (by decide +kernel : decode k_R_stay.2.1 23 = .ok (.iload_n 2, 1)) rfl rfl) ?_
        refine ai (r_iload_n (pc := 24) (k := 3) (by decide +kernel : decode k_R_stay.2.1 24 = .ok (.iload_n 3, 1)) rfl rfl) ?_
        rcases ite_some h with ⟨c8, h⟩ | ⟨c8, h⟩
        · refine ai (r_icmp_ge_t (pc := 25) (tgt := 35) (by decide +kernel : decode k_R_stay.2.1 25 = .ok (.if_icmp .ge (10), 3)) (by decide) c8) ?_
          refine ai (r_iconst (pc := 35) (by decide +kernel : decode k_R_stay.2.1 35 = .ok (.iconst (-1), 1)) ic_m1) ?_
          refine ai (r_goto (pc := 36) (tgt := 49) (by decide +kernel : decode k_R_stay.2.1 36 = .ok (.goto (13), 3)) (by decide)) ?_
          cases h
          exact ⟨r_iret rfl (by decide +kernel : decode k_R_stay.2.1 49 = .ok (.ireturn, 1)), hL⟩
        · refine ai (r_icmp_ge_f (pc := 25) 35 (by decide +kernel : decode k_R_stay.2.1 25 = .ok (.if_icmp .ge (10), 3)) (by decide) c8) ?_
          refine ai (r_iload_n (pc := 28) (k := 3) (by decide +kernel : decode k_R_stay.2.1 28 = .ok (.iload_n 3, 1)) rfl rfl) ?_
          refine ai (r_sipush (pc := 29) (by decide +kernel : decode k_R_stay.2.1 29 = .ok (.sipush (140), 3)) (by decide : _ = (140 : Int32))) ?_
          rcases ite_some h with ⟨c9, h⟩ | ⟨c9, h⟩
          · refine ai (r_icmp_le_t (pc := 32) (tgt := 39) (by decide +kernel : decode k_R_stay.2.1 32 = .ok (.if_icmp .le (7), 3)) (by decide) c9) ?_
            refine ai (p_aload_n (pc := 39) (k := 0) (by decide +kernel : decode k_R_stay.2.1 39 = .ok (.aload_n 0, 1)) rfl rfl) ?_
            refine ai (r_bipush (pc := 40) (by decide +kernel : decode k_R_stay.2.1 40 = .ok (.bipush (10), 2)) (by decide : _ = (10 : Int32))) ?_
            refine ai (r_iload_n (pc := 42) (k := 1) (by decide +kernel : decode k_R_stay.2.1 42 = .ok (.iload_n 1, 1)) rfl rfl) ?_
            refine ai (r_iload_n (pc := 43) (k := 2) (by decide +kernel : decode k_R_stay.2.1 43 = .ok (.iload_n 2, 1)) rfl rfl) ?_
            refine ai (r_iload_n (pc := 44) (k := 3) (by decide +kernel : decode k_R_stay.2.1 44 = .ok (.iload_n 3, 1)) rfl rfl) ?_
            refine ai (r_iconst (pc := 45) (by decide +kernel : decode k_R_stay.2.1 45 = .ok (.iconst 0, 1)) ic_0) ?_
            obtain ⟨r10, m11, hr10, h⟩ := bn_some h
            have q12 := R_fact_run hL hr10
            have c13 := (RC_0 hL).1
            have hL := q12.2
            refine ai (q_callV (pc := 46) (As := [.int 10, .int x1, .int x2, .int x3, .int 0]) (st := []) (st2 := [.int r10]) (b := 0) rfl rfl (by decide +kernel : decode k_R_stay.2.1 46 = .ok (.invokevirtual 378, 3)) lc_12_378 mo_R_fact ⟨Nat.le_of_ble_eq_true rfl, Nat.le_of_ble_eq_true rfl⟩ (Nat.le_of_ble_eq_true rfl) (Nat.le_of_ble_eq_true rfl) c13 q12.1) ?_
            cases h
            exact ⟨r_iret rfl (by decide +kernel : decode k_R_stay.2.1 49 = .ok (.ireturn, 1)), hL⟩
          · refine ai (r_icmp_le_f (pc := 32) 39 (by decide +kernel : decode k_R_stay.2.1 32 = .ok (.if_icmp .le (7), 3)) (by decide) c9) ?_
            refine ai (r_iconst (pc := 35) (by decide +kernel : decode k_R_stay.2.1 35 = .ok (.iconst (-1), 1)) ic_m1) ?_
            refine ai (r_goto (pc := 36) (tgt := 49) (by decide +kernel : decode k_R_stay.2.1 36 = .ok (.goto (13), 3)) (by decide)) ?_
            cases h
            exact ⟨r_iret rfl (by decide +kernel : decode k_R_stay.2.1 49 = .ok (.ireturn, 1)), hL⟩
set_option maxRecDepth 100000 in
set_option maxHeartbeats 4000000 in
theorem R_isKnown_run {x1 : Int32} {m m' : Mem} {r : Int32} (hL : RL m) (h : R_isKnown x1 m = some (r, m')) : Run k_R_isKnown 0 [(0, .ref 0), (1, .int x1)] [] m (some (.int r)) m' ∧ RL m' := by
  unfold R_isKnown at h
  refine ai (r_iload_n (pc := 0) (k := 1) (by decide +kernel : decode k_R_isKnown.2.1 0 = .ok (.iload_n 1, 1)) rfl rfl) ?_
  rcases ite_some h with ⟨c1, h⟩ | ⟨c1, h⟩
  · refine ai (r_if_lt_t (pc := 1) (tgt := 16) (by decide +kernel : decode k_R_isKnown.2.1 1 = .ok (.ifCond .lt (15), 3)) (by decide) c1) ?_
    refine ai (r_iconst (pc := 16) (by decide +kernel : decode k_R_isKnown.2.1 16 = .ok (.iconst 0, 1)) ic_0) ?_
    cases h
    exact ⟨r_zret (by decide) rfl (by decide +kernel : decode k_R_isKnown.2.1 17 = .ok (.ireturn, 1)), hL⟩
  · refine ai (r_if_lt_f (pc := 1) 16 (by decide +kernel : decode k_R_isKnown.2.1 1 = .ok (.ifCond .lt (15), 3)) (by decide) c1) ?_
    refine ai (r_iload_n (pc := 4) (k := 1) (by decide +kernel : decode k_R_isKnown.2.1 4 = .ok (.iload_n 1, 1)) rfl rfl) ?_
    refine ai (p_aload_n (pc := 5) (k := 0) (by decide +kernel : decode k_R_isKnown.2.1 5 = .ok (.aload_n 0, 1)) rfl rfl) ?_
    refine ai (r_getI (pc := 6) (by decide +kernel : decode k_R_isKnown.2.1 6 = .ok (.getfield 338, 3)) lg_12_338 (by decide) (RC_0 hL).1) ?_
    rcases ite_some h with ⟨c2, h⟩ | ⟨c2, h⟩
    · refine ai (r_icmp_gt_t (pc := 9) (tgt := 16) (by decide +kernel : decode k_R_isKnown.2.1 9 = .ok (.if_icmp .gt (7), 3)) (by decide) c2) ?_
      refine ai (r_iconst (pc := 16) (by decide +kernel : decode k_R_isKnown.2.1 16 = .ok (.iconst 0, 1)) ic_0) ?_
      cases h
      exact ⟨r_zret (by decide) rfl (by decide +kernel : decode k_R_isKnown.2.1 17 = .ok (.ireturn, 1)), hL⟩
    · refine ai (r_icmp_gt_f (pc := 9) 16 (by decide +kernel : decode k_R_isKnown.2.1 9 = .ok (.if_icmp .gt (7), 3)) (by decide) c2) ?_
      refine ai (r_iconst (pc := 12) (by decide +kernel : decode k_R_isKnown.2.1 12 = .ok (.iconst 1, 1)) ic_1) ?_
      refine ai (r_goto (pc := 13) (tgt := 17) (by decide +kernel : decode k_R_isKnown.2.1 13 = .ok (.goto (4), 3)) (by decide)) ?_
      cases h
      exact ⟨r_zret (by decide) rfl (by decide +kernel : decode k_R_isKnown.2.1 17 = .ok (.ireturn, 1)), hL⟩
set_option maxRecDepth 100000 in
set_option maxHeartbeats 4000000 in
theorem R_priceOf_64_run {x6 : Int32} {m m' : Mem} {r : Int32} (hL : RL m) (h : R_priceOf_64 x6 m = some (r, m')) : Run k_R_priceOf 64 [(0, .ref 0), (6, .int x6)] [] m (some (.int r)) m' ∧ RL m' := by
  unfold R_priceOf_64 at h
  refine ai (p_aload_n (pc := 64) (k := 0) (by decide +kernel : decode k_R_priceOf.2.1 64 = .ok (.aload_n 0, 1)) rfl rfl) ?_
  refine ai (p_getr (pc := 65) (RR_1606_0 hL) (by decide +kernel : decode k_R_priceOf.2.1 65 = .ok (.getfield 161, 3)) lg_12_161 (RC_0 hL).1) ?_
  refine ai (r_iload (pc := 68) (k := 1) (by decide +kernel : decode k_R_priceOf.2.1 68 = .ok (.iload 6, 2)) rfl) ?_
  obtain ⟨g1, h⟩ := gd_some h
  refine ai (p_iald (pc := 70) (by decide +kernel : decode k_R_priceOf.2.1 70 = .ok (.iaload, 1)) (RC_48 hL).1 (RC_48 hL).2 g1) ?_
  cases h
  exact ⟨r_iret rfl (by decide +kernel : decode k_R_priceOf.2.1 71 = .ok (.ireturn, 1)), hL⟩
set_option maxRecDepth 100000 in
set_option maxHeartbeats 4000000 in
theorem R_priceOf_72_run {k3 : Int32 → Int32 → Int32 → Int32 → Mem → Option (Int32 × Mem)} {k14 : Int32 → Int32 → Int32 → Int32 → Int32 → Mem → Option (Int32 × Mem)} {x1 : Int32} {x3 : Int32} {x4 : Int32} {x5 : Int32} {x6 : Int32} {m m' : Mem} {r : Int32} (hk3 : ∀ (x1 : Int32) (x3 : Int32) (x4 : Int32) (x5 : Int32) (m : Mem) (r : Int32) (m' : Mem), RL m → k3 x1 x3 x4 x5 m = some (r, m') → Run k_R_priceOf 3 [(0, .ref 0), (1, .int x1), (3, .int x3), (4, .int x4), (5, .int x5)] [] m (some (.int r)) m' ∧ RL m') (hk14 : ∀ (x1 : Int32) (x3 : Int32) (x4 : Int32) (x5 : Int32) (x6 : Int32) (m : Mem) (r : Int32) (m' : Mem), RL m → k14 x1 x3 x4 x5 x6 m = some (r, m') → Run k_R_priceOf 14 [(0, .ref 0), (1, .int x1), (3, .int x3), (4, .int x4), (5, .int x5), (6, .int x6)] [] m (some (.int r)) m' ∧ RL m') (hL : RL m) (h : R_priceOf_72 k3 k14 x1 x3 x4 x5 x6 m = some (r, m')) : Run k_R_priceOf 72 [(0, .ref 0), (1, .int x1), (3, .int x3), (4, .int x4), (5, .int x5), (6, .int x6)] [] m (some (.int r)) m' ∧ RL m' := by
  unfold R_priceOf_72 at h
  obtain ⟨v1, hv1, h⟩ := vb_some h
  refine ai (e_iinc (pc := 72) (k := 5) hv1 ic_m1 (by decide +kernel : decode k_R_priceOf.2.1 72 = .ok (.iinc 6 (-1), 3)) rfl (by decide) rfl) ?_
  refine ai (r_goto (pc := 75) (tgt := 14) (by decide +kernel : decode k_R_priceOf.2.1 75 = .ok (.goto (-61), 3)) (by decide)) ?_
  exact (ai (r_sub [1, 2, 3, 4, 5, 0] rfl) (hk14 x1 x3 x4 x5 v1 m _ _ hL h))
set_option maxRecDepth 100000 in
set_option maxHeartbeats 4000000 in
theorem R_priceOf_78_run {k3 : Int32 → Int32 → Int32 → Int32 → Mem → Option (Int32 × Mem)} {x1 : Int32} {x3 : Int32} {x4 : Int32} {x5 : Int32} {m m' : Mem} {r : Int32} (hk3 : ∀ (x1 : Int32) (x3 : Int32) (x4 : Int32) (x5 : Int32) (m : Mem) (r : Int32) (m' : Mem), RL m → k3 x1 x3 x4 x5 m = some (r, m') → Run k_R_priceOf 3 [(0, .ref 0), (1, .int x1), (3, .int x3), (4, .int x4), (5, .int x5)] [] m (some (.int r)) m' ∧ RL m') (hL : RL m) (h : R_priceOf_78 k3 x1 x3 x4 x5 m = some (r, m')) : Run k_R_priceOf 78 [(0, .ref 0), (1, .int x1), (3, .int x3), (4, .int x4), (5, .int x5)] [] m (some (.int r)) m' ∧ RL m' := by
  unfold R_priceOf_78 at h
  obtain ⟨v1, hv1, h⟩ := vb_some h
  refine ai (e_iinc (pc := 78) (k := 4) hv1 ic_m1 (by decide +kernel : decode k_R_priceOf.2.1 78 = .ok (.iinc 5 (-1), 3)) rfl (by decide) rfl) ?_
  refine ai (r_goto (pc := 81) (tgt := 3) (by decide +kernel : decode k_R_priceOf.2.1 81 = .ok (.goto (-78), 3)) (by decide)) ?_
  exact (ai (r_sub [1, 2, 3, 4, 0] rfl) (hk3 x1 x3 x4 v1 m _ _ hL h))
set_option maxRecDepth 100000 in
set_option maxHeartbeats 4000000 in
theorem R_priceOf_14_run {k3 : Int32 → Int32 → Int32 → Int32 → Mem → Option (Int32 × Mem)} {n : Nat} {x1 : Int32} {x3 : Int32} {x4 : Int32} {x5 : Int32} {x6 : Int32} {m m' : Mem} {r : Int32} (hk3 : ∀ (x1 : Int32) (x3 : Int32) (x4 : Int32) (x5 : Int32) (m : Mem) (r : Int32) (m' : Mem), RL m → k3 x1 x3 x4 x5 m = some (r, m') → Run k_R_priceOf 3 [(0, .ref 0), (1, .int x1), (3, .int x3), (4, .int x4), (5, .int x5)] [] m (some (.int r)) m' ∧ RL m') (hL : RL m) (h : R_priceOf_14 k3 n x1 x3 x4 x5 x6 m = some (r, m')) : Run k_R_priceOf 14 [(0, .ref 0), (1, .int x1), (3, .int x3), (4, .int x4), (5, .int x5), (6, .int x6)] [] m (some (.int r)) m' ∧ RL m' := by
  induction n generalizing x1 x3 x4 x5 x6 m r m' with
  | zero => exact absurd h (by simp [R_priceOf_14])
  | succ n ih =>
    rw [R_priceOf_14.eq_2] at h
    refine ai (r_iload (pc := 14) (k := 5) (by decide +kernel : decode k_R_priceOf.2.1 14 = .ok (.iload 6, 2)) rfl) ?_
    rcases ite_some h with ⟨c1, h⟩ | ⟨c1, h⟩
    · refine ai (r_if_lt_t (pc := 16) (tgt := 78) (by decide +kernel : decode k_R_priceOf.2.1 16 = .ok (.ifCond .lt (62), 3)) (by decide) c1) ?_
      exact (ai (r_sub [0, 1, 2, 3, 4] rfl) (R_priceOf_78_run hk3 hL h))
    · refine ai (r_if_lt_f (pc := 16) 78 (by decide +kernel : decode k_R_priceOf.2.1 16 = .ok (.ifCond .lt (62), 3)) (by decide) c1) ?_
      refine ai (p_aload_n (pc := 19) (k := 0) (by decide +kernel : decode k_R_priceOf.2.1 19 = .ok (.aload_n 0, 1)) rfl rfl) ?_
      refine ai (p_getr (pc := 20) (RR_1602_0 hL) (by decide +kernel : decode k_R_priceOf.2.1 20 = .ok (.getfield 149, 3)) lg_12_149 (RC_0 hL).1) ?_
      refine ai (r_iload (pc := 23) (k := 5) (by decide +kernel : decode k_R_priceOf.2.1 23 = .ok (.iload 6, 2)) rfl) ?_
      obtain ⟨g2, h⟩ := gd_some h
      refine ai (p_iald (pc := 25) (by decide +kernel : decode k_R_priceOf.2.1 25 = .ok (.iaload, 1)) (RC_44 hL).1 (RC_44 hL).2 g2) ?_
      refine ai (r_iconst (pc := 26) (by decide +kernel : decode k_R_priceOf.2.1 26 = .ok (.iconst 4, 1)) ic_4) ?_
      rcases ite_some h with ⟨c3, h⟩ | ⟨c3, h⟩
      · refine ai (r_icmp_ne_f (pc := 27) 72 (by decide +kernel : decode k_R_priceOf.2.1 27 = .ok (.if_icmp .ne (45), 3)) (by decide) c3) ?_
        refine ai (p_aload_n (pc := 30) (k := 0) (by decide +kernel : decode k_R_priceOf.2.1 30 = .ok (.aload_n 0, 1)) rfl rfl) ?_
        refine ai (p_getr (pc := 31) (RR_1603_0 hL) (by decide +kernel : decode k_R_priceOf.2.1 31 = .ok (.getfield 152, 3)) lg_12_152 (RC_0 hL).1) ?_
        refine ai (r_iload (pc := 34) (k := 5) (by decide +kernel : decode k_R_priceOf.2.1 34 = .ok (.iload 6, 2)) rfl) ?_
        obtain ⟨g4, h⟩ := gd_some h
        refine ai (p_iald (pc := 36) (by decide +kernel : decode k_R_priceOf.2.1 36 = .ok (.iaload, 1)) (RC_45 hL).1 (RC_45 hL).2 g4) ?_
        refine ai (r_iload_n (pc := 37) (k := 1) (by decide +kernel : decode k_R_priceOf.2.1 37 = .ok (.iload_n 1, 1)) rfl rfl) ?_
        rcases ite_some h with ⟨c5, h⟩ | ⟨c5, h⟩
        · refine ai (r_icmp_ne_f (pc := 38) 72 (by decide +kernel : decode k_R_priceOf.2.1 38 = .ok (.if_icmp .ne (34), 3)) (by decide) c5) ?_
          refine ai (p_aload_n (pc := 41) (k := 0) (by decide +kernel : decode k_R_priceOf.2.1 41 = .ok (.aload_n 0, 1)) rfl rfl) ?_
          refine ai (p_getr (pc := 42) (RR_1604_0 hL) (by decide +kernel : decode k_R_priceOf.2.1 42 = .ok (.getfield 155, 3)) lg_12_155 (RC_0 hL).1) ?_
          refine ai (r_iload (pc := 45) (k := 5) (by decide +kernel : decode k_R_priceOf.2.1 45 = .ok (.iload 6, 2)) rfl) ?_
          obtain ⟨g6, h⟩ := gd_some h
          refine ai (p_iald (pc := 47) (by decide +kernel : decode k_R_priceOf.2.1 47 = .ok (.iaload, 1)) (RC_46 hL).1 (RC_46 hL).2 g6) ?_
          refine ai (r_iload (pc := 48) (k := 4) (by decide +kernel : decode k_R_priceOf.2.1 48 = .ok (.iload 5, 2)) rfl) ?_
          rcases ite_some h with ⟨c7, h⟩ | ⟨c7, h⟩
          · refine ai (r_icmp_ne_f (pc := 50) 72 (by decide +kernel : decode k_R_priceOf.2.1 50 = .ok (.if_icmp .ne (22), 3)) (by decide) c7) ?_
            refine ai (p_aload_n (pc := 53) (k := 0) (by decide +kernel : decode k_R_priceOf.2.1 53 = .ok (.aload_n 0, 1)) rfl rfl) ?_
            refine ai (p_getr (pc := 54) (RR_1605_0 hL) (by decide +kernel : decode k_R_priceOf.2.1 54 = .ok (.getfield 158, 3)) lg_12_158 (RC_0 hL).1) ?_
            refine ai (r_iload (pc := 57) (k := 5) (by decide +kernel : decode k_R_priceOf.2.1 57 = .ok (.iload 6, 2)) rfl) ?_
            obtain ⟨g8, h⟩ := gd_some h
            refine ai (p_iald (pc := 59) (by decide +kernel : decode k_R_priceOf.2.1 59 = .ok (.iaload, 1)) (RC_47 hL).1 (RC_47 hL).2 g8) ?_
            refine ai (r_iload_n (pc := 60) (k := 2) (by decide +kernel : decode k_R_priceOf.2.1 60 = .ok (.iload_n 3, 1)) rfl rfl) ?_
            rcases ite_some h with ⟨c9, h⟩ | ⟨c9, h⟩
            · refine ai (r_icmp_ne_f (pc := 61) 72 (by decide +kernel : decode k_R_priceOf.2.1 61 = .ok (.if_icmp .ne (11), 3)) (by decide) c9) ?_
              exact (ai (r_sub [0, 5] rfl) (R_priceOf_64_run hL h))
            · refine ai (r_icmp_ne_t (pc := 61) (tgt := 72) (by decide +kernel : decode k_R_priceOf.2.1 61 = .ok (.if_icmp .ne (11), 3)) (by decide) c9) ?_
              exact (R_priceOf_72_run hk3 (fun _ _ _ _ _ _ _ _ q1 q3 => ih q1 q3) hL h)
          · refine ai (r_icmp_ne_t (pc := 50) (tgt := 72) (by decide +kernel : decode k_R_priceOf.2.1 50 = .ok (.if_icmp .ne (22), 3)) (by decide) c7) ?_
            exact (R_priceOf_72_run hk3 (fun _ _ _ _ _ _ _ _ q1 q3 => ih q1 q3) hL h)
        · refine ai (r_icmp_ne_t (pc := 38) (tgt := 72) (by decide +kernel : decode k_R_priceOf.2.1 38 = .ok (.if_icmp .ne (34), 3)) (by decide) c5) ?_
          exact (R_priceOf_72_run hk3 (fun _ _ _ _ _ _ _ _ q1 q3 => ih q1 q3) hL h)
      · refine ai (r_icmp_ne_t (pc := 27) (tgt := 72) (by decide +kernel : decode k_R_priceOf.2.1 27 = .ok (.if_icmp .ne (45), 3)) (by decide) c3) ?_
        exact (R_priceOf_72_run hk3 (fun _ _ _ _ _ _ _ _ q1 q3 => ih q1 q3) hL h)
set_option maxRecDepth 100000 in
set_option maxHeartbeats 4000000 in
theorem R_priceOf_3_run {n : Nat} {x1 : Int32} {x3 : Int32} {x4 : Int32} {x5 : Int32} {m m' : Mem} {r : Int32} (hL : RL m) (h : R_priceOf_3 n x1 x3 x4 x5 m = some (r, m')) : Run k_R_priceOf 3 [(0, .ref 0), (1, .int x1), (3, .int x3), (4, .int x4), (5, .int x5)] [] m (some (.int r)) m' ∧ RL m' := by
  induction n generalizing x1 x3 x4 x5 m r m' with
  | zero => exact absurd h (by simp [R_priceOf_3])
  | succ n ih =>
    rw [R_priceOf_3.eq_2] at h
    refine ai (r_iload (pc := 3) (k := 4) (by decide +kernel : decode k_R_priceOf.2.1 3 = .ok (.iload 5, 2)) rfl) ?_
    rcases ite_some h with ⟨c1, h⟩ | ⟨c1, h⟩
    · refine ai (r_if_lt_t (pc := 5) (tgt := 84) (by decide +kernel : decode k_R_priceOf.2.1 5 = .ok (.ifCond .lt (79), 3)) (by decide) c1) ?_
      refine ai (r_iconst (pc := 84) (by decide +kernel : decode k_R_priceOf.2.1 84 = .ok (.iconst 0, 1)) ic_0) ?_
      cases h
      exact ⟨r_iret rfl (by decide +kernel : decode k_R_priceOf.2.1 85 = .ok (.ireturn, 1)), hL⟩
    · refine ai (r_if_lt_f (pc := 5) 84 (by decide +kernel : decode k_R_priceOf.2.1 5 = .ok (.ifCond .lt (79), 3)) (by decide) c1) ?_
      refine ai (r_iload (pc := 8) (k := 3) (by decide +kernel : decode k_R_priceOf.2.1 8 = .ok (.iload 4, 2)) rfl) ?_
      refine ai (r_iconst (pc := 10) (by decide +kernel : decode k_R_priceOf.2.1 10 = .ok (.iconst 1, 1)) ic_1) ?_
      refine ai (r_isub (pc := 11) (by decide +kernel : decode k_R_priceOf.2.1 11 = .ok (.isub, 1))) ?_
      obtain ⟨v2, hv2, h⟩ := vb_some h
      refine ai (e_istore (pc := 12) hv2 (by decide +kernel : decode k_R_priceOf.2.1 12 = .ok (.istore 6, 2)) (by decide) rfl) ?_
      exact (ai (r_sub [1, 2, 3, 4, 5, 0] rfl) (R_priceOf_14_run (fun _ _ _ _ _ _ _ q1 q3 => ih q1 q3) hL h))
set_option maxRecDepth 100000 in
set_option maxHeartbeats 4000000 in
theorem R_priceOf_run {x1 : Int32} {x2 : Int32} {x3 : Int32} {x4 : Int32} {m m' : Mem} {r : Int32} (hL : RL m) (h : R_priceOf x1 x2 x3 x4 m = some (r, m')) : Run k_R_priceOf 0 [(0, .ref 0), (1, .int x1), (2, .int x2), (3, .int x3), (4, .int x4)] [] m (some (.int r)) m' ∧ RL m' := by
  unfold R_priceOf at h
  refine ai (r_iload_n (pc := 0) (k := 2) (by decide +kernel : decode k_R_priceOf.2.1 0 = .ok (.iload_n 2, 1)) rfl rfl) ?_
  refine ai (e_istore (pc := 1) rfl (by decide +kernel : decode k_R_priceOf.2.1 1 = .ok (.istore 5, 2)) (by decide) rfl) ?_
  exact (ai (r_sub [1, 2, 4, 5, 0] rfl) (R_priceOf_3_run hL h))
set_option maxRecDepth 100000 in
set_option maxHeartbeats 4000000 in
theorem R_priced_run {x1 : Int32} {x2 : Int32} {x3 : Int32} {x4 : Int32} {m m' : Mem} {r : Int32} (hL : RL m) (h : R_priced x1 x2 x3 x4 m = some (r, m')) : Run k_R_priced 0 [(0, .ref 0), (1, .int x1), (2, .int x2), (3, .int x3), (4, .int x4)] [] m (some (.int r)) m' ∧ RL m' := by
  unfold R_priced at h
  refine ai (p_aload_n (pc := 0) (k := 0) (by decide +kernel : decode k_R_priced.2.1 0 = .ok (.aload_n 0, 1)) rfl rfl) ?_
  refine ai (r_iload_n (pc := 1) (k := 1) (by decide +kernel : decode k_R_priced.2.1 1 = .ok (.iload_n 1, 1)) rfl rfl) ?_
  obtain ⟨r1, m2, hr1, h⟩ := bn_some h
  have q3 := R_isTown_run hL hr1
  have c4 := (RC_0 hL).1
  have hL := q3.2
  refine ai (q_callV (pc := 2) (As := [.int x1]) (st := []) (st2 := [.int r1]) (b := 0) rfl rfl (by decide +kernel : decode k_R_priced.2.1 2 = .ok (.invokevirtual 430, 3)) lc_12_430 mo_R_isTown ⟨Nat.le_of_ble_eq_true rfl, Nat.le_of_ble_eq_true rfl⟩ (Nat.le_of_ble_eq_true rfl) (Nat.le_of_ble_eq_true rfl) c4 q3.1) ?_
  rcases ite_some h with ⟨c5, h⟩ | ⟨c5, h⟩
  · refine ai (r_if_eq_t (pc := 5) (tgt := 47) (by decide +kernel : decode k_R_priced.2.1 5 = .ok (.ifCond .eq (42), 3)) (by decide) c5) ?_
    refine ai (r_iconst (pc := 47) (by decide +kernel : decode k_R_priced.2.1 47 = .ok (.iconst (-1), 1)) ic_m1) ?_
    cases h
    exact ⟨r_iret rfl (by decide +kernel : decode k_R_priced.2.1 48 = .ok (.ireturn, 1)), hL⟩
  · refine ai (r_if_eq_f (pc := 5) 47 (by decide +kernel : decode k_R_priced.2.1 5 = .ok (.ifCond .eq (42), 3)) (by decide) c5) ?_
    refine ai (r_iload_n (pc := 8) (k := 2) (by decide +kernel : decode k_R_priced.2.1 8 = .ok (.iload_n 2, 1)) rfl rfl) ?_
    refine ai (r_iconst (pc := 9) (by decide +kernel : decode k_R_priced.2.1 9 = .ok (.iconst 0, 1)) ic_0) ?_
    refine ai (r_iconst (pc := 10) (by decide +kernel : decode k_R_priced.2.1 10 = .ok (.iconst 3, 1)) ic_3) ?_
    obtain ⟨r6, hr6, h⟩ := bp_some h
    refine ai (q_callS (pc := 11) (As := [.int x2, .int 0, .int 3]) (st := []) (st2 := [.int r6]) rfl rfl (by decide +kernel : decode k_R_priced.2.1 11 = .ok (.invokestatic 433, 3)) lc_12_433 mo_R_in ⟨Nat.le_of_ble_eq_true rfl, Nat.le_of_ble_eq_true rfl⟩ (Nat.le_of_ble_eq_true rfl) (Nat.le_of_ble_eq_true rfl) (R_in_run hr6)) ?_
    rcases ite_some h with ⟨c7, h⟩ | ⟨c7, h⟩
    · refine ai (r_if_eq_t (pc := 14) (tgt := 47) (by decide +kernel : decode k_R_priced.2.1 14 = .ok (.ifCond .eq (33), 3)) (by decide) c7) ?_
      refine ai (r_iconst (pc := 47) (by decide +kernel : decode k_R_priced.2.1 47 = .ok (.iconst (-1), 1)) ic_m1) ?_
      cases h
      exact ⟨r_iret rfl (by decide +kernel : decode k_R_priced.2.1 48 = .ok (.ireturn, 1)), hL⟩
    · refine ai (r_if_eq_f (pc := 14) 47 (by decide +kernel : decode k_R_priced.2.1 14 = .ok (.ifCond .eq (33), 3)) (by decide) c7) ?_
      refine ai (r_iload_n (pc := 17) (k := 3) (by decide +kernel : decode k_R_priced.2.1 17 = .ok (.iload_n 3, 1)) rfl rfl) ?_
      refine ai (r_iconst (pc := 18) (by decide +kernel : decode k_R_priced.2.1 18 = .ok (.iconst 0, 1)) ic_0) ?_
      refine ai (r_iconst (pc := 19) (by decide +kernel : decode k_R_priced.2.1 19 = .ok (.iconst 3, 1)) ic_3) ?_
      obtain ⟨r8, hr8, h⟩ := bp_some h
      refine ai (q_callS (pc := 20) (As := [.int x3, .int 0, .int 3]) (st := []) (st2 := [.int r8]) rfl rfl (by decide +kernel : decode k_R_priced.2.1 20 = .ok (.invokestatic 433, 3)) lc_12_433 mo_R_in ⟨Nat.le_of_ble_eq_true rfl, Nat.le_of_ble_eq_true rfl⟩ (Nat.le_of_ble_eq_true rfl) (Nat.le_of_ble_eq_true rfl) (R_in_run hr8)) ?_
      rcases ite_some h with ⟨c9, h⟩ | ⟨c9, h⟩
      · refine ai (r_if_eq_t (pc := 23) (tgt := 47) (by decide +kernel : decode k_R_priced.2.1 23 = .ok (.ifCond .eq (24), 3)) (by decide) c9) ?_
        refine ai (r_iconst (pc := 47) (by decide +kernel : decode k_R_priced.2.1 47 = .ok (.iconst (-1), 1)) ic_m1) ?_
        cases h
        exact ⟨r_iret rfl (by decide +kernel : decode k_R_priced.2.1 48 = .ok (.ireturn, 1)), hL⟩
      · refine ai (r_if_eq_f (pc := 23) 47 (by decide +kernel : decode k_R_priced.2.1 23 = .ok (.ifCond .eq (24), 3)) (by decide) c9) ?_
        refine ai (p_aload_n (pc := 26) (k := 0) (by decide +kernel : decode k_R_priced.2.1 26 = .ok (.aload_n 0, 1)) rfl rfl) ?_
        refine ai (r_iload (pc := 27) (k := 4) (by decide +kernel : decode k_R_priced.2.1 27 = .ok (.iload 4, 2)) rfl) ?_
        obtain ⟨r10, m11, hr10, h⟩ := bn_some h
        have q12 := R_isKnown_run hL hr10
        have c13 := (RC_0 hL).1
        have hL := q12.2
        refine ai (q_callV (pc := 29) (As := [.int x4]) (st := []) (st2 := [.int r10]) (b := 0) rfl rfl (by decide +kernel : decode k_R_priced.2.1 29 = .ok (.invokevirtual 455, 3)) lc_12_455 mo_R_isKnown ⟨Nat.le_of_ble_eq_true rfl, Nat.le_of_ble_eq_true rfl⟩ (Nat.le_of_ble_eq_true rfl) (Nat.le_of_ble_eq_true rfl) c13 q12.1) ?_
        rcases ite_some h with ⟨c14, h⟩ | ⟨c14, h⟩
        · refine ai (r_if_eq_t (pc := 32) (tgt := 47) (by decide +kernel : decode k_R_priced.2.1 32 = .ok (.ifCond .eq (15), 3)) (by decide) c14) ?_
          refine ai (r_iconst (pc := 47) (by decide +kernel : decode k_R_priced.2.1 47 = .ok (.iconst (-1), 1)) ic_m1) ?_
          cases h
          exact ⟨r_iret rfl (by decide +kernel : decode k_R_priced.2.1 48 = .ok (.ireturn, 1)), hL⟩
        · refine ai (r_if_eq_f (pc := 32) 47 (by decide +kernel : decode k_R_priced.2.1 32 = .ok (.ifCond .eq (15), 3)) (by decide) c14) ?_
          refine ai (p_aload_n (pc := 35) (k := 0) (by decide +kernel : decode k_R_priced.2.1 35 = .ok (.aload_n 0, 1)) rfl rfl) ?_
          refine ai (r_iload_n (pc := 36) (k := 1) (by decide +kernel : decode k_R_priced.2.1 36 = .ok (.iload_n 1, 1)) rfl rfl) ?_
          refine ai (r_iload_n (pc := 37) (k := 2) (by decide +kernel : decode k_R_priced.2.1 37 = .ok (.iload_n 2, 1)) rfl rfl) ?_
          refine ai (r_iload_n (pc := 38) (k := 3) (by decide +kernel : decode k_R_priced.2.1 38 = .ok (.iload_n 3, 1)) rfl rfl) ?_
          refine ai (r_iload (pc := 39) (k := 4) (by decide +kernel : decode k_R_priced.2.1 39 = .ok (.iload 4, 2)) rfl) ?_
          obtain ⟨r15, m16, hr15, h⟩ := bn_some h
          have q17 := R_priceOf_run hL hr15
          have c18 := (RC_0 hL).1
          have hL := q17.2
          refine ai (q_callV (pc := 41) (As := [.int x1, .int x2, .int x3, .int x4]) (st := []) (st2 := [.int r15]) (b := 0) rfl rfl (by decide +kernel : decode k_R_priced.2.1 41 = .ok (.invokevirtual 458, 3)) lc_12_458 mo_R_priceOf ⟨Nat.le_of_ble_eq_true rfl, Nat.le_of_ble_eq_true rfl⟩ (Nat.le_of_ble_eq_true rfl) (Nat.le_of_ble_eq_true rfl) c18 q17.1) ?_
          refine ai (r_goto (pc := 44) (tgt := 48) (by decide +kernel : decode k_R_priced.2.1 44 = .ok (.goto (4), 3)) (by decide)) ?_
          cases h
          exact ⟨r_iret rfl (by decide +kernel : decode k_R_priced.2.1 48 = .ok (.ireturn, 1)), hL⟩
set_option maxRecDepth 100000 in
set_option maxHeartbeats 4000000 in
theorem R_leastOf_6_run {n : Nat} {x1 : Int32} {x2 : Int32} {x3 : Int32} {x4 : Int32} {x5 : Int32} {m m' : Mem} {r : Int32} (hL : RL m) (h : R_leastOf_6 n x1 x2 x3 x4 x5 m = some (r, m')) : Run k_R_leastOf 6 [(0, .ref 0), (1, .int x1), (2, .int x2), (3, .int x3), (4, .int x4), (5, .int x5)] [] m (some (.int r)) m' ∧ RL m' := by
  induction n generalizing x1 x2 x3 x4 x5 m r m' with
  | zero => exact absurd h (by simp [R_leastOf_6])
  | succ n ih =>
    rw [R_leastOf_6.eq_2] at h
    refine ai (r_iload (pc := 6) (k := 5) (by decide +kernel : decode k_R_leastOf.2.1 6 = .ok (.iload 5, 2)) rfl) ?_
    refine ai (r_iconst (pc := 8) (by decide +kernel : decode k_R_leastOf.2.1 8 = .ok (.iconst 4, 1)) ic_4) ?_
    rcases ite_some h with ⟨c1, h⟩ | ⟨c1, h⟩
    · refine ai (r_icmp_ge_t (pc := 9) (tgt := 40) (by decide +kernel : decode k_R_leastOf.2.1 9 = .ok (.if_icmp .ge (31), 3)) (by decide) c1) ?_
      refine ai (r_iload (pc := 40) (k := 4) (by decide +kernel : decode k_R_leastOf.2.1 40 = .ok (.iload 4, 2)) rfl) ?_
      cases h
      exact ⟨r_iret rfl (by decide +kernel : decode k_R_leastOf.2.1 42 = .ok (.ireturn, 1)), hL⟩
    · refine ai (r_icmp_ge_f (pc := 9) 40 (by decide +kernel : decode k_R_leastOf.2.1 9 = .ok (.if_icmp .ge (31), 3)) (by decide) c1) ?_
      refine ai (r_iload (pc := 12) (k := 4) (by decide +kernel : decode k_R_leastOf.2.1 12 = .ok (.iload 4, 2)) rfl) ?_
      refine ai (p_aload_n (pc := 14) (k := 0) (by decide +kernel : decode k_R_leastOf.2.1 14 = .ok (.aload_n 0, 1)) rfl rfl) ?_
      refine ai (p_getr (pc := 15) (RR_1600_0 hL) (by decide +kernel : decode k_R_leastOf.2.1 15 = .ok (.getfield 146, 3)) lg_12_146 (RC_0 hL).1) ?_
      refine ai (r_iload (pc := 18) (k := 5) (by decide +kernel : decode k_R_leastOf.2.1 18 = .ok (.iload 5, 2)) rfl) ?_
      obtain ⟨g2, h⟩ := gd_some h
      refine ai (p_iald (pc := 20) (by decide +kernel : decode k_R_leastOf.2.1 20 = .ok (.iaload, 1)) (RC_43 hL).1 (RC_43 hL).2 g2) ?_
      refine ai (p_aload_n (pc := 21) (k := 0) (by decide +kernel : decode k_R_leastOf.2.1 21 = .ok (.aload_n 0, 1)) rfl rfl) ?_
      refine ai (r_iload_n (pc := 22) (k := 1) (by decide +kernel : decode k_R_leastOf.2.1 22 = .ok (.iload_n 1, 1)) rfl rfl) ?_
      refine ai (r_iload_n (pc := 23) (k := 2) (by decide +kernel : decode k_R_leastOf.2.1 23 = .ok (.iload_n 2, 1)) rfl rfl) ?_
      refine ai (r_iload (pc := 24) (k := 5) (by decide +kernel : decode k_R_leastOf.2.1 24 = .ok (.iload 5, 2)) rfl) ?_
      refine ai (r_iload_n (pc := 26) (k := 3) (by decide +kernel : decode k_R_leastOf.2.1 26 = .ok (.iload_n 3, 1)) rfl rfl) ?_
      obtain ⟨r3, m4, hr3, h⟩ := bn_some h
      have q5 := R_priceOf_run hL hr3
      have c6 := (RC_0 hL).1
      have hL := q5.2
      refine ai (q_callV (pc := 27) (As := [.int x1, .int x2, .int x5, .int x3]) (st := [.int (aI m 43 (ix x5)), .int x4]) (st2 := [.int r3, .int (aI m 43 (ix x5)), .int x4]) (b := 0) rfl rfl (by decide +kernel : decode k_R_leastOf.2.1 27 = .ok (.invokevirtual 458, 3)) lc_12_458 mo_R_priceOf ⟨Nat.le_of_ble_eq_true rfl, Nat.le_of_ble_eq_true rfl⟩ (Nat.le_of_ble_eq_true rfl) (Nat.le_of_ble_eq_true rfl) c6 q5.1) ?_
      refine ai (r_imul (pc := 30) (by decide +kernel : decode k_R_leastOf.2.1 30 = .ok (.imul, 1))) ?_
      refine ai (r_iadd (pc := 31) (by decide +kernel : decode k_R_leastOf.2.1 31 = .ok (.iadd, 1))) ?_
      obtain ⟨v7, hv7, h⟩ := vb_some h
      refine ai (e_istore (pc := 32) hv7 (by decide +kernel : decode k_R_leastOf.2.1 32 = .ok (.istore 4, 2)) (by decide) rfl) ?_
      obtain ⟨v8, hv8, h⟩ := vb_some h
      refine ai (e_iinc (pc := 34) (k := 5) hv8 ic_1 (by decide +kernel : decode k_R_leastOf.2.1 34 = .ok (.iinc 5 (1), 3)) rfl (by decide) rfl) ?_
      refine ai (r_goto (pc := 37) (tgt := 6) (by decide +kernel : decode k_R_leastOf.2.1 37 = .ok (.goto (-31), 3)) (by decide)) ?_
      exact (ai (r_sub [2, 3, 4, 5, 1, 0] rfl) (ih hL h))
set_option maxRecDepth 100000 in
set_option maxHeartbeats 4000000 in
theorem R_leastOf_run {x1 : Int32} {x2 : Int32} {x3 : Int32} {m m' : Mem} {r : Int32} (hL : RL m) (h : R_leastOf x1 x2 x3 m = some (r, m')) : Run k_R_leastOf 0 [(0, .ref 0), (1, .int x1), (2, .int x2), (3, .int x3)] [] m (some (.int r)) m' ∧ RL m' := by
  unfold R_leastOf at h
  refine ai (r_iconst (pc := 0) (by decide +kernel : decode k_R_leastOf.2.1 0 = .ok (.iconst 0, 1)) ic_0) ?_
  refine ai (e_istore (pc := 1) rfl (by decide +kernel : decode k_R_leastOf.2.1 1 = .ok (.istore 4, 2)) (by decide) rfl) ?_
  refine ai (r_iconst (pc := 3) (by decide +kernel : decode k_R_leastOf.2.1 3 = .ok (.iconst 0, 1)) ic_0) ?_
  refine ai (e_istore (pc := 4) rfl (by decide +kernel : decode k_R_leastOf.2.1 4 = .ok (.istore 5, 2)) (by decide) rfl) ?_
  exact (ai (r_sub [2, 3, 4, 5, 1, 0] rfl) (R_leastOf_6_run hL h))
set_option maxRecDepth 100000 in
set_option maxHeartbeats 4000000 in
theorem R_least_run {x1 : Int32} {x2 : Int32} {x3 : Int32} {m m' : Mem} {r : Int32} (hL : RL m) (h : R_least x1 x2 x3 m = some (r, m')) : Run k_R_least 0 [(0, .ref 0), (1, .int x1), (2, .int x2), (3, .int x3)] [] m (some (.int r)) m' ∧ RL m' := by
  unfold R_least at h
  refine ai (p_aload_n (pc := 0) (k := 0) (by decide +kernel : decode k_R_least.2.1 0 = .ok (.aload_n 0, 1)) rfl rfl) ?_
  refine ai (r_iload_n (pc := 1) (k := 1) (by decide +kernel : decode k_R_least.2.1 1 = .ok (.iload_n 1, 1)) rfl rfl) ?_
  obtain ⟨r1, m2, hr1, h⟩ := bn_some h
  have q3 := R_isTown_run hL hr1
  have c4 := (RC_0 hL).1
  have hL := q3.2
  refine ai (q_callV (pc := 2) (As := [.int x1]) (st := []) (st2 := [.int r1]) (b := 0) rfl rfl (by decide +kernel : decode k_R_least.2.1 2 = .ok (.invokevirtual 430, 3)) lc_12_430 mo_R_isTown ⟨Nat.le_of_ble_eq_true rfl, Nat.le_of_ble_eq_true rfl⟩ (Nat.le_of_ble_eq_true rfl) (Nat.le_of_ble_eq_true rfl) c4 q3.1) ?_
  rcases ite_some h with ⟨c5, h⟩ | ⟨c5, h⟩
  · refine ai (r_if_eq_t (pc := 5) (tgt := 35) (by decide +kernel : decode k_R_least.2.1 5 = .ok (.ifCond .eq (30), 3)) (by decide) c5) ?_
    refine ai (r_iconst (pc := 35) (by decide +kernel : decode k_R_least.2.1 35 = .ok (.iconst (-1), 1)) ic_m1) ?_
    cases h
    exact ⟨r_iret rfl (by decide +kernel : decode k_R_least.2.1 36 = .ok (.ireturn, 1)), hL⟩
  · refine ai (r_if_eq_f (pc := 5) 35 (by decide +kernel : decode k_R_least.2.1 5 = .ok (.ifCond .eq (30), 3)) (by decide) c5) ?_
    refine ai (r_iload_n (pc := 8) (k := 2) (by decide +kernel : decode k_R_least.2.1 8 = .ok (.iload_n 2, 1)) rfl rfl) ?_
    refine ai (r_iconst (pc := 9) (by decide +kernel : decode k_R_least.2.1 9 = .ok (.iconst 0, 1)) ic_0) ?_
    refine ai (r_iconst (pc := 10) (by decide +kernel : decode k_R_least.2.1 10 = .ok (.iconst 3, 1)) ic_3) ?_
    obtain ⟨r6, hr6, h⟩ := bp_some h
    refine ai (q_callS (pc := 11) (As := [.int x2, .int 0, .int 3]) (st := []) (st2 := [.int r6]) rfl rfl (by decide +kernel : decode k_R_least.2.1 11 = .ok (.invokestatic 433, 3)) lc_12_433 mo_R_in ⟨Nat.le_of_ble_eq_true rfl, Nat.le_of_ble_eq_true rfl⟩ (Nat.le_of_ble_eq_true rfl) (Nat.le_of_ble_eq_true rfl) (R_in_run hr6)) ?_
    rcases ite_some h with ⟨c7, h⟩ | ⟨c7, h⟩
    · refine ai (r_if_eq_t (pc := 14) (tgt := 35) (by decide +kernel : decode k_R_least.2.1 14 = .ok (.ifCond .eq (21), 3)) (by decide) c7) ?_
      refine ai (r_iconst (pc := 35) (by decide +kernel : decode k_R_least.2.1 35 = .ok (.iconst (-1), 1)) ic_m1) ?_
      cases h
      exact ⟨r_iret rfl (by decide +kernel : decode k_R_least.2.1 36 = .ok (.ireturn, 1)), hL⟩
    · refine ai (r_if_eq_f (pc := 14) 35 (by decide +kernel : decode k_R_least.2.1 14 = .ok (.ifCond .eq (21), 3)) (by decide) c7) ?_
      refine ai (p_aload_n (pc := 17) (k := 0) (by decide +kernel : decode k_R_least.2.1 17 = .ok (.aload_n 0, 1)) rfl rfl) ?_
      refine ai (r_iload_n (pc := 18) (k := 3) (by decide +kernel : decode k_R_least.2.1 18 = .ok (.iload_n 3, 1)) rfl rfl) ?_
      obtain ⟨r8, m9, hr8, h⟩ := bn_some h
      have q10 := R_isKnown_run hL hr8
      have c11 := (RC_0 hL).1
      have hL := q10.2
      refine ai (q_callV (pc := 19) (As := [.int x3]) (st := []) (st2 := [.int r8]) (b := 0) rfl rfl (by decide +kernel : decode k_R_least.2.1 19 = .ok (.invokevirtual 455, 3)) lc_12_455 mo_R_isKnown ⟨Nat.le_of_ble_eq_true rfl, Nat.le_of_ble_eq_true rfl⟩ (Nat.le_of_ble_eq_true rfl) (Nat.le_of_ble_eq_true rfl) c11 q10.1) ?_
      rcases ite_some h with ⟨c12, h⟩ | ⟨c12, h⟩
      · refine ai (r_if_eq_t (pc := 22) (tgt := 35) (by decide +kernel : decode k_R_least.2.1 22 = .ok (.ifCond .eq (13), 3)) (by decide) c12) ?_
        refine ai (r_iconst (pc := 35) (by decide +kernel : decode k_R_least.2.1 35 = .ok (.iconst (-1), 1)) ic_m1) ?_
        cases h
        exact ⟨r_iret rfl (by decide +kernel : decode k_R_least.2.1 36 = .ok (.ireturn, 1)), hL⟩
      · refine ai (r_if_eq_f (pc := 22) 35 (by decide +kernel : decode k_R_least.2.1 22 = .ok (.ifCond .eq (13), 3)) (by decide) c12) ?_
        refine ai (p_aload_n (pc := 25) (k := 0) (by decide +kernel : decode k_R_least.2.1 25 = .ok (.aload_n 0, 1)) rfl rfl) ?_
        refine ai (r_iload_n (pc := 26) (k := 1) (by decide +kernel : decode k_R_least.2.1 26 = .ok (.iload_n 1, 1)) rfl rfl) ?_
        refine ai (r_iload_n (pc := 27) (k := 2) (by decide +kernel : decode k_R_least.2.1 27 = .ok (.iload_n 2, 1)) rfl rfl) ?_
        refine ai (r_iload_n (pc := 28) (k := 3) (by decide +kernel : decode k_R_least.2.1 28 = .ok (.iload_n 3, 1)) rfl rfl) ?_
        obtain ⟨r13, m14, hr13, h⟩ := bn_some h
        have q15 := R_leastOf_run hL hr13
        have c16 := (RC_0 hL).1
        have hL := q15.2
        refine ai (q_callV (pc := 29) (As := [.int x1, .int x2, .int x3]) (st := []) (st2 := [.int r13]) (b := 0) rfl rfl (by decide +kernel : decode k_R_least.2.1 29 = .ok (.invokevirtual 461, 3)) lc_12_461 mo_R_leastOf ⟨Nat.le_of_ble_eq_true rfl, Nat.le_of_ble_eq_true rfl⟩ (Nat.le_of_ble_eq_true rfl) (Nat.le_of_ble_eq_true rfl) c16 q15.1) ?_
        refine ai (r_goto (pc := 32) (tgt := 36) (by decide +kernel : decode k_R_least.2.1 32 = .ok (.goto (4), 3)) (by decide)) ?_
        cases h
        exact ⟨r_iret rfl (by decide +kernel : decode k_R_least.2.1 36 = .ok (.ireturn, 1)), hL⟩
set_option maxRecDepth 100000 in
set_option maxHeartbeats 4000000 in
theorem R_kind_run {x1 : Int32} {m m' : Mem} {r : Int32} (hL : RL m) (h : R_kind x1 m = some (r, m')) : Run k_R_kind 0 [(0, .ref 0), (1, .int x1)] [] m (some (.int r)) m' ∧ RL m' := by
  unfold R_kind at h
  refine ai (r_iload_n (pc := 0) (k := 1) (by decide +kernel : decode k_R_kind.2.1 0 = .ok (.iload_n 1, 1)) rfl rfl) ?_
  rcases ite_some h with ⟨c1, h⟩ | ⟨c1, h⟩
  · refine ai (r_if_lt_t (pc := 1) (tgt := 21) (by decide +kernel : decode k_R_kind.2.1 1 = .ok (.ifCond .lt (20), 3)) (by decide) c1) ?_
    refine ai (r_iconst (pc := 21) (by decide +kernel : decode k_R_kind.2.1 21 = .ok (.iconst (-1), 1)) ic_m1) ?_
    cases h
    exact ⟨r_iret rfl (by decide +kernel : decode k_R_kind.2.1 22 = .ok (.ireturn, 1)), hL⟩
  · refine ai (r_if_lt_f (pc := 1) 21 (by decide +kernel : decode k_R_kind.2.1 1 = .ok (.ifCond .lt (20), 3)) (by decide) c1) ?_
    refine ai (r_iload_n (pc := 4) (k := 1) (by decide +kernel : decode k_R_kind.2.1 4 = .ok (.iload_n 1, 1)) rfl rfl) ?_
    refine ai (p_aload_n (pc := 5) (k := 0) (by decide +kernel : decode k_R_kind.2.1 5 = .ok (.aload_n 0, 1)) rfl rfl) ?_
    refine ai (r_getI (pc := 6) (by decide +kernel : decode k_R_kind.2.1 6 = .ok (.getfield 338, 3)) lg_12_338 (by decide) (RC_0 hL).1) ?_
    rcases ite_some h with ⟨c2, h⟩ | ⟨c2, h⟩
    · refine ai (r_icmp_ge_t (pc := 9) (tgt := 21) (by decide +kernel : decode k_R_kind.2.1 9 = .ok (.if_icmp .ge (12), 3)) (by decide) c2) ?_
      refine ai (r_iconst (pc := 21) (by decide +kernel : decode k_R_kind.2.1 21 = .ok (.iconst (-1), 1)) ic_m1) ?_
      cases h
      exact ⟨r_iret rfl (by decide +kernel : decode k_R_kind.2.1 22 = .ok (.ireturn, 1)), hL⟩
    · refine ai (r_icmp_ge_f (pc := 9) 21 (by decide +kernel : decode k_R_kind.2.1 9 = .ok (.if_icmp .ge (12), 3)) (by decide) c2) ?_
      refine ai (p_aload_n (pc := 12) (k := 0) (by decide +kernel : decode k_R_kind.2.1 12 = .ok (.aload_n 0, 1)) rfl rfl) ?_
      refine ai (p_getr (pc := 13) (RR_1602_0 hL) (by decide +kernel : decode k_R_kind.2.1 13 = .ok (.getfield 149, 3)) lg_12_149 (RC_0 hL).1) ?_
      refine ai (r_iload_n (pc := 16) (k := 1) (by decide +kernel : decode k_R_kind.2.1 16 = .ok (.iload_n 1, 1)) rfl rfl) ?_
      obtain ⟨g3, h⟩ := gd_some h
      refine ai (p_iald (pc := 17) (by decide +kernel : decode k_R_kind.2.1 17 = .ok (.iaload, 1)) (RC_44 hL).1 (RC_44 hL).2 g3) ?_
      refine ai (r_goto (pc := 18) (tgt := 22) (by decide +kernel : decode k_R_kind.2.1 18 = .ok (.goto (4), 3)) (by decide)) ?_
      cases h
      exact ⟨r_iret rfl (by decide +kernel : decode k_R_kind.2.1 22 = .ok (.ireturn, 1)), hL⟩
set_option maxRecDepth 100000 in
set_option maxHeartbeats 4000000 in
theorem R_award_run {x1 : Int32} {m m' : Mem} {r : Int32} (hL : RL m) (h : R_award x1 m = some (r, m')) : Run k_R_award 0 [(0, .ref 0), (1, .int x1)] [] m (some (.int r)) m' ∧ RL m' := by
  unfold R_award at h
  refine ai (p_aload_n (pc := 0) (k := 0) (by decide +kernel : decode k_R_award.2.1 0 = .ok (.aload_n 0, 1)) rfl rfl) ?_
  refine ai (r_iload_n (pc := 1) (k := 1) (by decide +kernel : decode k_R_award.2.1 1 = .ok (.iload_n 1, 1)) rfl rfl) ?_
  obtain ⟨r1, m2, hr1, h⟩ := bn_some h
  have q3 := R_textAt_run hL hr1
  have c4 := (RC_0 hL).1
  have hL := q3.2
  refine ai (q_callV (pc := 2) (As := [.int x1]) (st := []) (st2 := [.int r1]) (b := 0) rfl rfl (by decide +kernel : decode k_R_award.2.1 2 = .ok (.invokevirtual 446, 3)) lc_12_446 mo_R_textAt ⟨Nat.le_of_ble_eq_true rfl, Nat.le_of_ble_eq_true rfl⟩ (Nat.le_of_ble_eq_true rfl) (Nat.le_of_ble_eq_true rfl) c4 q3.1) ?_
  refine ai (e_istore_n (pc := 5) rfl (by decide +kernel : decode k_R_award.2.1 5 = .ok (.istore_n 2, 1)) rfl (by decide) rfl) ?_
  refine ai (r_iload_n (pc := 6) (k := 0) (by decide +kernel : decode k_R_award.2.1 6 = .ok (.iload_n 2, 1)) rfl rfl) ?_
  refine ai (r_iconst (pc := 7) (by decide +kernel : decode k_R_award.2.1 7 = .ok (.iconst (-1), 1)) ic_m1) ?_
  rcases ite_some h with ⟨c5, h⟩ | ⟨c5, h⟩
  · refine ai (r_icmp_ne_f (pc := 8) 15 (by decide +kernel : decode k_R_award.2.1 8 = .ok (.if_icmp .ne (7), 3)) (by decide) c5) ?_
    refine ai (r_iconst (pc := 11) (by decide +kernel : decode k_R_award.2.1 11 = .ok (.iconst (-1), 1)) ic_m1) ?_
    refine ai (r_goto (pc := 12) (tgt := 26) (by decide +kernel : decode k_R_award.2.1 12 = .ok (.goto (14), 3)) (by decide)) ?_
    cases h
    exact ⟨r_iret rfl (by decide +kernel : decode k_R_award.2.1 26 = .ok (.ireturn, 1)), hL⟩
  · refine ai (r_icmp_ne_t (pc := 8) (tgt := 15) (by decide +kernel : decode k_R_award.2.1 8 = .ok (.if_icmp .ne (7), 3)) (by decide) c5) ?_
    refine ai (p_aload_n (pc := 15) (k := 1) (by decide +kernel : decode k_R_award.2.1 15 = .ok (.aload_n 0, 1)) rfl rfl) ?_
    refine ai (p_getr (pc := 16) (RR_1559_0 hL) (by decide +kernel : decode k_R_award.2.1 16 = .ok (.getfield 52, 3)) lg_12_52 (RC_0 hL).1) ?_
    refine ai (p_aload_n (pc := 19) (k := 1) (by decide +kernel : decode k_R_award.2.1 19 = .ok (.aload_n 0, 1)) rfl rfl) ?_
    refine ai (p_getr (pc := 20) (RR_1560_0 hL) (by decide +kernel : decode k_R_award.2.1 20 = .ok (.getfield 55, 3)) lg_12_55 (RC_0 hL).1) ?_
    refine ai (r_iload_n (pc := 23) (k := 0) (by decide +kernel : decode k_R_award.2.1 23 = .ok (.iload_n 2, 1)) rfl rfl) ?_
    obtain ⟨g6, h⟩ := gd_some h
    refine ai (p_iald (pc := 24) (by decide +kernel : decode k_R_award.2.1 24 = .ok (.iaload, 1)) (RC_13 hL).1 (RC_13 hL).2 g6) ?_
    obtain ⟨g7, h⟩ := gd_some h
    refine ai (p_iald (pc := 25) (by decide +kernel : decode k_R_award.2.1 25 = .ok (.iaload, 1)) (RC_12 hL).1 (RC_12 hL).2 g7) ?_
    cases h
    exact ⟨r_iret rfl (by decide +kernel : decode k_R_award.2.1 26 = .ok (.ireturn, 1)), hL⟩
set_option maxRecDepth 100000 in
set_option maxHeartbeats 4000000 in
theorem R_isAsked_run {x1 : Int32} {x2 : Int32} {x3 : Int32} {x4 : Int32} {m m' : Mem} {r : Int32} (hL : RL m) (h : R_isAsked x1 x2 x3 x4 m = some (r, m')) : Run k_R_isAsked 0 [(0, .ref 0), (1, .int x1), (2, .int x2), (3, .int x3), (4, .int x4)] [] m (some (.int r)) m' ∧ RL m' := by
  unfold R_isAsked at h
  refine ai (p_aload_n (pc := 0) (k := 0) (by decide +kernel : decode k_R_isAsked.2.1 0 = .ok (.aload_n 0, 1)) rfl rfl) ?_
  refine ai (r_iload_n (pc := 1) (k := 1) (by decide +kernel : decode k_R_isAsked.2.1 1 = .ok (.iload_n 1, 1)) rfl rfl) ?_
  obtain ⟨r1, m2, hr1, h⟩ := bn_some h
  have q3 := R_textAt_run hL hr1
  have c4 := (RC_0 hL).1
  have hL := q3.2
  refine ai (q_callV (pc := 2) (As := [.int x1]) (st := []) (st2 := [.int r1]) (b := 0) rfl rfl (by decide +kernel : decode k_R_isAsked.2.1 2 = .ok (.invokevirtual 446, 3)) lc_12_446 mo_R_textAt ⟨Nat.le_of_ble_eq_true rfl, Nat.le_of_ble_eq_true rfl⟩ (Nat.le_of_ble_eq_true rfl) (Nat.le_of_ble_eq_true rfl) c4 q3.1) ?_
  refine ai (r_iconst (pc := 5) (by decide +kernel : decode k_R_isAsked.2.1 5 = .ok (.iconst (-1), 1)) ic_m1) ?_
  rcases ite_some h with ⟨c5, h⟩ | ⟨c5, h⟩
  · refine ai (r_icmp_eq_t (pc := 6) (tgt := 47) (by decide +kernel : decode k_R_isAsked.2.1 6 = .ok (.if_icmp .eq (41), 3)) (by decide) c5) ?_
    refine ai (r_iconst (pc := 47) (by decide +kernel : decode k_R_isAsked.2.1 47 = .ok (.iconst 0, 1)) ic_0) ?_
    cases h
    exact ⟨r_zret (by decide) rfl (by decide +kernel : decode k_R_isAsked.2.1 48 = .ok (.ireturn, 1)), hL⟩
  · refine ai (r_icmp_eq_f (pc := 6) 47 (by decide +kernel : decode k_R_isAsked.2.1 6 = .ok (.if_icmp .eq (41), 3)) (by decide) c5) ?_
    refine ai (r_iload_n (pc := 9) (k := 2) (by decide +kernel : decode k_R_isAsked.2.1 9 = .ok (.iload_n 2, 1)) rfl rfl) ?_
    refine ai (r_iconst (pc := 10) (by decide +kernel : decode k_R_isAsked.2.1 10 = .ok (.iconst 0, 1)) ic_0) ?_
    refine ai (r_sipush (pc := 11) (by decide +kernel : decode k_R_isAsked.2.1 11 = .ok (.sipush (139), 3)) (by decide : _ = (139 : Int32))) ?_
    obtain ⟨r6, hr6, h⟩ := bp_some h
    refine ai (q_callS (pc := 14) (As := [.int x2, .int 0, .int 139]) (st := []) (st2 := [.int r6]) rfl rfl (by decide +kernel : decode k_R_isAsked.2.1 14 = .ok (.invokestatic 433, 3)) lc_12_433 mo_R_in ⟨Nat.le_of_ble_eq_true rfl, Nat.le_of_ble_eq_true rfl⟩ (Nat.le_of_ble_eq_true rfl) (Nat.le_of_ble_eq_true rfl) (R_in_run hr6)) ?_
    rcases ite_some h with ⟨c7, h⟩ | ⟨c7, h⟩
    · refine ai (r_if_eq_t (pc := 17) (tgt := 47) (by decide +kernel : decode k_R_isAsked.2.1 17 = .ok (.ifCond .eq (30), 3)) (by decide) c7) ?_
      refine ai (r_iconst (pc := 47) (by decide +kernel : decode k_R_isAsked.2.1 47 = .ok (.iconst 0, 1)) ic_0) ?_
      cases h
      exact ⟨r_zret (by decide) rfl (by decide +kernel : decode k_R_isAsked.2.1 48 = .ok (.ireturn, 1)), hL⟩
    · refine ai (r_if_eq_f (pc := 17) 47 (by decide +kernel : decode k_R_isAsked.2.1 17 = .ok (.ifCond .eq (30), 3)) (by decide) c7) ?_
      refine ai (p_aload_n (pc := 20) (k := 0) (by decide +kernel : decode k_R_isAsked.2.1 20 = .ok (.aload_n 0, 1)) rfl rfl) ?_
      refine ai (r_iload_n (pc := 21) (k := 3) (by decide +kernel : decode k_R_isAsked.2.1 21 = .ok (.iload_n 3, 1)) rfl rfl) ?_
      obtain ⟨r8, m9, hr8, h⟩ := bn_some h
      have q10 := R_isFirm_run hL hr8
      have c11 := (RC_0 hL).1
      have hL := q10.2
      refine ai (q_callV (pc := 22) (As := [.int x3]) (st := []) (st2 := [.int r8]) (b := 0) rfl rfl (by decide +kernel : decode k_R_isAsked.2.1 22 = .ok (.invokevirtual 440, 3)) lc_12_440 mo_R_isFirm ⟨Nat.le_of_ble_eq_true rfl, Nat.le_of_ble_eq_true rfl⟩ (Nat.le_of_ble_eq_true rfl) (Nat.le_of_ble_eq_true rfl) c11 q10.1) ?_
      rcases ite_some h with ⟨c12, h⟩ | ⟨c12, h⟩
      · refine ai (r_if_eq_t (pc := 25) (tgt := 47) (by decide +kernel : decode k_R_isAsked.2.1 25 = .ok (.ifCond .eq (22), 3)) (by decide) c12) ?_
        refine ai (r_iconst (pc := 47) (by decide +kernel : decode k_R_isAsked.2.1 47 = .ok (.iconst 0, 1)) ic_0) ?_
        cases h
        exact ⟨r_zret (by decide) rfl (by decide +kernel : decode k_R_isAsked.2.1 48 = .ok (.ireturn, 1)), hL⟩
      · refine ai (r_if_eq_f (pc := 25) 47 (by decide +kernel : decode k_R_isAsked.2.1 25 = .ok (.ifCond .eq (22), 3)) (by decide) c12) ?_
        refine ai (p_aload_n (pc := 28) (k := 0) (by decide +kernel : decode k_R_isAsked.2.1 28 = .ok (.aload_n 0, 1)) rfl rfl) ?_
        refine ai (r_iload (pc := 29) (k := 4) (by decide +kernel : decode k_R_isAsked.2.1 29 = .ok (.iload 4, 2)) rfl) ?_
        obtain ⟨r13, m14, hr13, h⟩ := bn_some h
        have q15 := R_isKnown_run hL hr13
        have c16 := (RC_0 hL).1
        have hL := q15.2
        refine ai (q_callV (pc := 31) (As := [.int x4]) (st := []) (st2 := [.int r13]) (b := 0) rfl rfl (by decide +kernel : decode k_R_isAsked.2.1 31 = .ok (.invokevirtual 455, 3)) lc_12_455 mo_R_isKnown ⟨Nat.le_of_ble_eq_true rfl, Nat.le_of_ble_eq_true rfl⟩ (Nat.le_of_ble_eq_true rfl) (Nat.le_of_ble_eq_true rfl) c16 q15.1) ?_
        rcases ite_some h with ⟨c17, h⟩ | ⟨c17, h⟩
        · refine ai (r_if_eq_t (pc := 34) (tgt := 47) (by decide +kernel : decode k_R_isAsked.2.1 34 = .ok (.ifCond .eq (13), 3)) (by decide) c17) ?_
          refine ai (r_iconst (pc := 47) (by decide +kernel : decode k_R_isAsked.2.1 47 = .ok (.iconst 0, 1)) ic_0) ?_
          cases h
          exact ⟨r_zret (by decide) rfl (by decide +kernel : decode k_R_isAsked.2.1 48 = .ok (.ireturn, 1)), hL⟩
        · refine ai (r_if_eq_f (pc := 34) 47 (by decide +kernel : decode k_R_isAsked.2.1 34 = .ok (.ifCond .eq (13), 3)) (by decide) c17) ?_
          refine ai (r_iload_n (pc := 37) (k := 1) (by decide +kernel : decode k_R_isAsked.2.1 37 = .ok (.iload_n 1, 1)) rfl rfl) ?_
          refine ai (r_iload (pc := 38) (k := 4) (by decide +kernel : decode k_R_isAsked.2.1 38 = .ok (.iload 4, 2)) rfl) ?_
          rcases ite_some h with ⟨c18, h⟩ | ⟨c18, h⟩
          · refine ai (r_icmp_ge_t (pc := 40) (tgt := 47) (by decide +kernel : decode k_R_isAsked.2.1 40 = .ok (.if_icmp .ge (7), 3)) (by decide) c18) ?_
            refine ai (r_iconst (pc := 47) (by decide +kernel : decode k_R_isAsked.2.1 47 = .ok (.iconst 0, 1)) ic_0) ?_
            cases h
            exact ⟨r_zret (by decide) rfl (by decide +kernel : decode k_R_isAsked.2.1 48 = .ok (.ireturn, 1)), hL⟩
          · refine ai (r_icmp_ge_f (pc := 40) 47 (by decide +kernel : decode k_R_isAsked.2.1 40 = .ok (.if_icmp .ge (7), 3)) (by decide) c18) ?_
            refine ai (r_iconst (pc := 43) (by decide +kernel : decode k_R_isAsked.2.1 43 = .ok (.iconst 1, 1)) ic_1) ?_
            refine ai (r_goto (pc := 44) (tgt := 48) (by decide +kernel : decode k_R_isAsked.2.1 44 = .ok (.goto (4), 3)) (by decide)) ?_
            cases h
            exact ⟨r_zret (by decide) rfl (by decide +kernel : decode k_R_isAsked.2.1 48 = .ok (.ireturn, 1)), hL⟩
