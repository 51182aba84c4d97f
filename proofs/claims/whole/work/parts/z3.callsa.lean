/-! Layer D: the law's calls (written by gen/law.py) -/
section Cs
variable {p : Program} {l : Launch} {e : Env} {s : State} {m : MethodId} {below : List Frame} {meth : Method} {c : Code} {b L : Nat} {xs : Nat → Int32} {G : GG} {H : Heap} {cells slots nc w i : Nat} {ls : Array Slot} {Q : State → Prop} {pm rm : Mem}
set_option maxRecDepth 100000 in
set_option maxHeartbeats 4000000 in
theorem law_c0 (C : Lx G p s m meth c b L xs) (hL : L ≤ 4096) (hl : lv_has ls 4 [(3, .int (nj (8 * i))), (2, .ref (s.heap.size + 51)), (1, .ref s.heap.size), (0, .ref b)]) (hi : 8 * i + 8 ≤ L) (I : LJ G s pm rm H) (R : Rel nc w pm rm) (hb : w + 537600 < 2147483647) (hc : cells + 158 ≤ 600000) (hz : slots + 1300 ≤ 7302250) (kk : ∀ (nc1 w1 : Nat) (pm1 rm1 : Mem) (H1 : Heap), LJ G s pm1 rm1 H1 → Rel nc1 w1 pm1 rm1 → w1 ≤ w + 537600 → WL p l e s m below meth c b H1 (cells + 158) (slots + 1300) Q ls 2213 []) : WL p l e s m below meth c b H cells slots Q ls 228 [] := by
  obtain ⟨v, p1, r1, nc1, w1, e1, e2, R1, hw1, hc1, hs1⟩ := s_feed R hb (xs (8 * i + 1)) (xs (8 * i + 2)) (xs (8 * i + 3)) (xs (8 * i + 4)) (xs (8 * i + 5)) (fun v r' e => (R_feed_run I.2.1.1 e).2.1.1.trans I.2.1.1.1.1.symm)
  have q1 := P_feed_run I.2.2.1 e1
  have q2 := R_feed_run I.2.1.1 e2
  refine lv_aload_n (x := s.heap.size) C.1.1 C.1.2.1 (by decide +kernel : decode code 228 = .ok (.aload_n 1, 1)) rfl (lv_at hl 2 rfl) ?_
  refine law_arg (pc := 229) 1 C hL I.2.2.2.2 hl hi (by decide) (by decide +kernel) ?_
  refine law_arg (pc := 234) 2 C hL I.2.2.2.2 hl hi (by decide) (by decide +kernel) ?_
  refine law_arg (pc := 239) 3 C hL I.2.2.2.2 hl hi (by decide) (by decide +kernel) ?_
  refine law_arg (pc := 244) 4 C hL I.2.2.2.2 hl hi (by decide) (by decide +kernel) ?_
  refine law_arg (pc := 249) 5 C hL I.2.2.2.2 hl hi (by decide) (by decide +kernel) ?_
  refine law_P (pc := 254) (idx := 13) (As := [.int (xs (8 * i + 1)), .int (xs (8 * i + 2)), .int (xs (8 * i + 3)), .int (xs (8 * i + 4)), .int (xs (8 * i + 5))]) (w := some (.int v)) (vs := [.int v]) C hl.1 I q1 (by decide +kernel) lc_L_13 mo_P_feed ⟨Nat.le_of_ble_eq_true rfl, Nat.le_of_ble_eq_true rfl⟩ (Nat.le_of_ble_eq_true rfl) (by show _ ≤ 600000; omega) (by show _ ≤ 7302250; omega) (fun _ => rfl) (fun _ => rfl) fun H1 I1 => ?_
  refine lv_aload_n (x := s.heap.size + 51) C.1.1 C.1.2.1 (by decide +kernel : decode code 257 = .ok (.aload_n 2, 1)) rfl (lv_at hl 1 rfl) ?_
  refine law_arg (pc := 258) 1 C hL I1.2.2.2.2 hl hi (by decide) (by decide +kernel) ?_
  refine law_arg (pc := 263) 2 C hL I1.2.2.2.2 hl hi (by decide) (by decide +kernel) ?_
  refine law_arg (pc := 268) 3 C hL I1.2.2.2.2 hl hi (by decide) (by decide +kernel) ?_
  refine law_arg (pc := 273) 4 C hL I1.2.2.2.2 hl hi (by decide) (by decide +kernel) ?_
  refine law_arg (pc := 278) 5 C hL I1.2.2.2.2 hl hi (by decide) (by decide +kernel) ?_
  refine law_R (pc := 283) (idx := 17) (As := [.int (xs (8 * i + 1)), .int (xs (8 * i + 2)), .int (xs (8 * i + 3)), .int (xs (8 * i + 4)), .int (xs (8 * i + 5))]) (rest := [.int v]) (w := some (.int v)) (vs := [.int v, .int v]) C hl.1 I1 q2 (by decide +kernel) lc_L_17 mo_R_feed ⟨Nat.le_of_ble_eq_true rfl, Nat.le_of_ble_eq_true rfl⟩ (Nat.le_of_ble_eq_true rfl) (Nat.le_of_ble_eq_true rfl) (by show _ ≤ 600000; omega) (by show _ ≤ 7302250; omega) (fun _ => rfl) (fun _ => rfl) fun H2 I2 => ?_
  refine lv_icmp_eq (tgt := 2213) C.1.1 C.1.2.1 (by decide +kernel : decode code 286 = .ok (.if_icmp .eq 1927, 3)) (by decide) (fun _ => ?_) (fun z => absurd rfl z)
  exact W.widen (by omega) (by omega) (kk _ _ _ _ _ I2 R1 hw1)
set_option maxRecDepth 100000 in
set_option maxHeartbeats 4000000 in
theorem law_c1 (C : Lx G p s m meth c b L xs) (hL : L ≤ 4096) (hl : lv_has ls 4 [(3, .int (nj (8 * i))), (2, .ref (s.heap.size + 51)), (1, .ref s.heap.size), (0, .ref b)]) (hi : 8 * i + 8 ≤ L) (I : LJ G s pm rm H) (R : Rel nc w pm rm) (hb : w + 537600 < 2147483647) (hc : cells + 158 ≤ 600000) (hz : slots + 1300 ≤ 7302250) (kk : ∀ (nc1 w1 : Nat) (pm1 rm1 : Mem) (H1 : Heap), LJ G s pm1 rm1 H1 → Rel nc1 w1 pm1 rm1 → w1 ≤ w + 537600 → WL p l e s m below meth c b H1 (cells + 158) (slots + 1300) Q ls 2213 []) : WL p l e s m below meth c b H cells slots Q ls 291 [] := by
  obtain ⟨v, p1, r1, nc1, w1, e1, e2, R1, hw1, hc1, hs1⟩ := s_back R hb (xs (8 * i + 1)) (fun v r' e => (R_back_run I.2.1.1 e).2.1.1.trans I.2.1.1.1.1.symm)
  have q1 := P_back_run I.2.2.1 e1
  have q2 := R_back_run I.2.1.1 e2
  refine lv_aload_n (x := s.heap.size) C.1.1 C.1.2.1 (by decide +kernel : decode code 291 = .ok (.aload_n 1, 1)) rfl (lv_at hl 2 rfl) ?_
  refine law_arg (pc := 292) 1 C hL I.2.2.2.2 hl hi (by decide) (by decide +kernel) ?_
  refine law_P (pc := 297) (idx := 18) (As := [.int (xs (8 * i + 1))]) (w := some (.int v)) (vs := [.int v]) C hl.1 I q1 (by decide +kernel) lc_L_18 mo_P_back ⟨Nat.le_of_ble_eq_true rfl, Nat.le_of_ble_eq_true rfl⟩ (Nat.le_of_ble_eq_true rfl) (by show _ ≤ 600000; omega) (by show _ ≤ 7302250; omega) (fun _ => rfl) (fun _ => rfl) fun H1 I1 => ?_
  refine lv_aload_n (x := s.heap.size + 51) C.1.1 C.1.2.1 (by decide +kernel : decode code 300 = .ok (.aload_n 2, 1)) rfl (lv_at hl 1 rfl) ?_
  refine law_arg (pc := 301) 1 C hL I1.2.2.2.2 hl hi (by decide) (by decide +kernel) ?_
  refine law_R (pc := 306) (idx := 22) (As := [.int (xs (8 * i + 1))]) (rest := [.int v]) (w := some (.int v)) (vs := [.int v, .int v]) C hl.1 I1 q2 (by decide +kernel) lc_L_22 mo_R_back ⟨Nat.le_of_ble_eq_true rfl, Nat.le_of_ble_eq_true rfl⟩ (Nat.le_of_ble_eq_true rfl) (Nat.le_of_ble_eq_true rfl) (by show _ ≤ 600000; omega) (by show _ ≤ 7302250; omega) (fun _ => rfl) (fun _ => rfl) fun H2 I2 => ?_
  refine lv_icmp_eq (tgt := 2213) C.1.1 C.1.2.1 (by decide +kernel : decode code 309 = .ok (.if_icmp .eq 1904, 3)) (by decide) (fun _ => ?_) (fun z => absurd rfl z)
  exact W.widen (by omega) (by omega) (kk _ _ _ _ _ I2 R1 hw1)
set_option maxRecDepth 100000 in
set_option maxHeartbeats 4000000 in
theorem law_c2 (C : Lx G p s m meth c b L xs) (hL : L ≤ 4096) (hl : lv_has ls 4 [(3, .int (nj (8 * i))), (2, .ref (s.heap.size + 51)), (1, .ref s.heap.size), (0, .ref b)]) (hi : 8 * i + 8 ≤ L) (I : LJ G s pm rm H) (R : Rel nc w pm rm) (hb : w + 537600 < 2147483647) (hc : cells + 158 ≤ 600000) (hz : slots + 1300 ≤ 7302250) (kk : ∀ (nc1 w1 : Nat) (pm1 rm1 : Mem) (H1 : Heap), LJ G s pm1 rm1 H1 → Rel nc1 w1 pm1 rm1 → w1 ≤ w + 537600 → WL p l e s m below meth c b H1 (cells + 158) (slots + 1300) Q ls 2213 []) : WL p l e s m below meth c b H cells slots Q ls 314 [] := by
  obtain ⟨v, p1, r1, nc1, w1, e1, e2, R1, hw1, hc1, hs1⟩ := s_read R hb  (fun v r' e => (R_read_run I.2.1.1 e).2.1.1.trans I.2.1.1.1.1.symm)
  have q1 := P_read_run I.2.2.1 e1
  have q2 := R_read_run I.2.1.1 e2
  refine lv_aload_n (x := s.heap.size) C.1.1 C.1.2.1 (by decide +kernel : decode code 314 = .ok (.aload_n 1, 1)) rfl (lv_at hl 2 rfl) ?_
  refine law_P (pc := 315) (idx := 23) (As := []) (w := some (.int v)) (vs := [.int v]) C hl.1 I q1 (by decide +kernel) lc_L_23 mo_P_read ⟨Nat.le_of_ble_eq_true rfl, Nat.le_of_ble_eq_true rfl⟩ (Nat.le_of_ble_eq_true rfl) (by show _ ≤ 600000; omega) (by show _ ≤ 7302250; omega) (fun _ => rfl) (fun _ => rfl) fun H1 I1 => ?_
  refine lv_aload_n (x := s.heap.size + 51) C.1.1 C.1.2.1 (by decide +kernel : decode code 318 = .ok (.aload_n 2, 1)) rfl (lv_at hl 1 rfl) ?_
  refine law_R (pc := 319) (idx := 27) (As := []) (rest := [.int v]) (w := some (.int v)) (vs := [.int v, .int v]) C hl.1 I1 q2 (by decide +kernel) lc_L_27 mo_R_read ⟨Nat.le_of_ble_eq_true rfl, Nat.le_of_ble_eq_true rfl⟩ (Nat.le_of_ble_eq_true rfl) (Nat.le_of_ble_eq_true rfl) (by show _ ≤ 600000; omega) (by show _ ≤ 7302250; omega) (fun _ => rfl) (fun _ => rfl) fun H2 I2 => ?_
  refine lv_icmp_eq (tgt := 2213) C.1.1 C.1.2.1 (by decide +kernel : decode code 322 = .ok (.if_icmp .eq 1891, 3)) (by decide) (fun _ => ?_) (fun z => absurd rfl z)
  exact W.widen (by omega) (by omega) (kk _ _ _ _ _ I2 R1 hw1)
set_option maxRecDepth 100000 in
set_option maxHeartbeats 4000000 in
theorem law_c3 (C : Lx G p s m meth c b L xs) (hL : L ≤ 4096) (hl : lv_has ls 4 [(3, .int (nj (8 * i))), (2, .ref (s.heap.size + 51)), (1, .ref s.heap.size), (0, .ref b)]) (hi : 8 * i + 8 ≤ L) (I : LJ G s pm rm H) (R : Rel nc w pm rm) (hb : w + 537600 < 2147483647) (hc : cells + 158 ≤ 600000) (hz : slots + 1300 ≤ 7302250) (kk : ∀ (nc1 w1 : Nat) (pm1 rm1 : Mem) (H1 : Heap), LJ G s pm1 rm1 H1 → Rel nc1 w1 pm1 rm1 → w1 ≤ w + 537600 → WL p l e s m below meth c b H1 (cells + 158) (slots + 1300) Q ls 2213 []) : WL p l e s m below meth c b H cells slots Q ls 327 [] := by
  obtain ⟨v, p1, r1, nc1, w1, e1, e2, R1, hw1, hc1, hs1⟩ := s_place R hb  (fun v r' e => (R_place_run I.2.1.1 e).2.1.1.trans I.2.1.1.1.1.symm)
  have q1 := P_place_run I.2.2.1 e1
  have q2 := R_place_run I.2.1.1 e2
  refine lv_aload_n (x := s.heap.size) C.1.1 C.1.2.1 (by decide +kernel : decode code 327 = .ok (.aload_n 1, 1)) rfl (lv_at hl 2 rfl) ?_
  refine law_P (pc := 328) (idx := 28) (As := []) (w := some (.int v)) (vs := [.int v]) C hl.1 I q1 (by decide +kernel) lc_L_28 mo_P_place ⟨Nat.le_of_ble_eq_true rfl, Nat.le_of_ble_eq_true rfl⟩ (Nat.le_of_ble_eq_true rfl) (by show _ ≤ 600000; omega) (by show _ ≤ 7302250; omega) (fun _ => rfl) (fun _ => rfl) fun H1 I1 => ?_
  refine lv_aload_n (x := s.heap.size + 51) C.1.1 C.1.2.1 (by decide +kernel : decode code 331 = .ok (.aload_n 2, 1)) rfl (lv_at hl 1 rfl) ?_
  refine law_R (pc := 332) (idx := 31) (As := []) (rest := [.int v]) (w := some (.int v)) (vs := [.int v, .int v]) C hl.1 I1 q2 (by decide +kernel) lc_L_31 mo_R_place ⟨Nat.le_of_ble_eq_true rfl, Nat.le_of_ble_eq_true rfl⟩ (Nat.le_of_ble_eq_true rfl) (Nat.le_of_ble_eq_true rfl) (by show _ ≤ 600000; omega) (by show _ ≤ 7302250; omega) (fun _ => rfl) (fun _ => rfl) fun H2 I2 => ?_
  refine lv_icmp_eq (tgt := 2213) C.1.1 C.1.2.1 (by decide +kernel : decode code 335 = .ok (.if_icmp .eq 1878, 3)) (by decide) (fun _ => ?_) (fun z => absurd rfl z)
  exact W.widen (by omega) (by omega) (kk _ _ _ _ _ I2 R1 hw1)
set_option maxRecDepth 100000 in
set_option maxHeartbeats 4000000 in
theorem law_c4 (C : Lx G p s m meth c b L xs) (hL : L ≤ 4096) (hl : lv_has ls 4 [(3, .int (nj (8 * i))), (2, .ref (s.heap.size + 51)), (1, .ref s.heap.size), (0, .ref b)]) (hi : 8 * i + 8 ≤ L) (I : LJ G s pm rm H) (R : Rel nc w pm rm) (hb : w + 537600 < 2147483647) (hc : cells + 158 ≤ 600000) (hz : slots + 1300 ≤ 7302250) (kk : ∀ (nc1 w1 : Nat) (pm1 rm1 : Mem) (H1 : Heap), LJ G s pm1 rm1 H1 → Rel nc1 w1 pm1 rm1 → w1 ≤ w + 537600 → WL p l e s m below meth c b H1 (cells + 158) (slots + 1300) Q ls 2213 []) : WL p l e s m below meth c b H cells slots Q ls 340 [] := by
  obtain ⟨v, p1, r1, nc1, w1, e1, e2, R1, hw1, hc1, hs1⟩ := s_named R hb  (fun v r' e => (R_named_run I.2.1.1 e).2.1.1.trans I.2.1.1.1.1.symm)
  have q1 := P_named_run I.2.2.1 e1
  have q2 := R_named_run I.2.1.1 e2
  refine lv_aload_n (x := s.heap.size) C.1.1 C.1.2.1 (by decide +kernel : decode code 340 = .ok (.aload_n 1, 1)) rfl (lv_at hl 2 rfl) ?_
  refine law_P (pc := 341) (idx := 32) (As := []) (w := some (.int v)) (vs := [.int v]) C hl.1 I q1 (by decide +kernel) lc_L_32 mo_P_named ⟨Nat.le_of_ble_eq_true rfl, Nat.le_of_ble_eq_true rfl⟩ (Nat.le_of_ble_eq_true rfl) (by show _ ≤ 600000; omega) (by show _ ≤ 7302250; omega) (fun _ => rfl) (fun _ => rfl) fun H1 I1 => ?_
  refine lv_aload_n (x := s.heap.size + 51) C.1.1 C.1.2.1 (by decide +kernel : decode code 344 = .ok (.aload_n 2, 1)) rfl (lv_at hl 1 rfl) ?_
  refine law_R (pc := 345) (idx := 35) (As := []) (rest := [.int v]) (w := some (.int v)) (vs := [.int v, .int v]) C hl.1 I1 q2 (by decide +kernel) lc_L_35 mo_R_named ⟨Nat.le_of_ble_eq_true rfl, Nat.le_of_ble_eq_true rfl⟩ (Nat.le_of_ble_eq_true rfl) (Nat.le_of_ble_eq_true rfl) (by show _ ≤ 600000; omega) (by show _ ≤ 7302250; omega) (fun _ => rfl) (fun _ => rfl) fun H2 I2 => ?_
  refine lv_icmp_eq (tgt := 2213) C.1.1 C.1.2.1 (by decide +kernel : decode code 348 = .ok (.if_icmp .eq 1865, 3)) (by decide) (fun _ => ?_) (fun z => absurd rfl z)
  exact W.widen (by omega) (by omega) (kk _ _ _ _ _ I2 R1 hw1)
set_option maxRecDepth 100000 in
set_option maxHeartbeats 4000000 in
theorem law_c5 (C : Lx G p s m meth c b L xs) (hL : L ≤ 4096) (hl : lv_has ls 4 [(3, .int (nj (8 * i))), (2, .ref (s.heap.size + 51)), (1, .ref s.heap.size), (0, .ref b)]) (hi : 8 * i + 8 ≤ L) (I : LJ G s pm rm H) (R : Rel nc w pm rm) (hb : w + 537600 < 2147483647) (hc : cells + 158 ≤ 600000) (hz : slots + 1300 ≤ 7302250) (kk : ∀ (nc1 w1 : Nat) (pm1 rm1 : Mem) (H1 : Heap), LJ G s pm1 rm1 H1 → Rel nc1 w1 pm1 rm1 → w1 ≤ w + 537600 → WL p l e s m below meth c b H1 (cells + 158) (slots + 1300) Q ls 2213 []) : WL p l e s m below meth c b H cells slots Q ls 353 [] := by
  obtain ⟨v, p1, r1, nc1, w1, e1, e2, R1, hw1, hc1, hs1⟩ := s_town R hb  (fun v r' e => (R_town_run I.2.1.1 e).2.1.1.trans I.2.1.1.1.1.symm)
  have q1 := P_town_run I.2.2.1 e1
  have q2 := R_town_run I.2.1.1 e2
  refine lv_aload_n (x := s.heap.size) C.1.1 C.1.2.1 (by decide +kernel : decode code 353 = .ok (.aload_n 1, 1)) rfl (lv_at hl 2 rfl) ?_
  refine law_P (pc := 354) (idx := 36) (As := []) (w := some (.int v)) (vs := [.int v]) C hl.1 I q1 (by decide +kernel) lc_L_36 mo_P_town ⟨Nat.le_of_ble_eq_true rfl, Nat.le_of_ble_eq_true rfl⟩ (Nat.le_of_ble_eq_true rfl) (by show _ ≤ 600000; omega) (by show _ ≤ 7302250; omega) (fun _ => rfl) (fun _ => rfl) fun H1 I1 => ?_
  refine lv_aload_n (x := s.heap.size + 51) C.1.1 C.1.2.1 (by decide +kernel : decode code 357 = .ok (.aload_n 2, 1)) rfl (lv_at hl 1 rfl) ?_
  refine law_R (pc := 358) (idx := 39) (As := []) (rest := [.int v]) (w := some (.int v)) (vs := [.int v, .int v]) C hl.1 I1 q2 (by decide +kernel) lc_L_39 mo_R_town ⟨Nat.le_of_ble_eq_true rfl, Nat.le_of_ble_eq_true rfl⟩ (Nat.le_of_ble_eq_true rfl) (Nat.le_of_ble_eq_true rfl) (by show _ ≤ 600000; omega) (by show _ ≤ 7302250; omega) (fun _ => rfl) (fun _ => rfl) fun H2 I2 => ?_
  refine lv_icmp_eq (tgt := 2213) C.1.1 C.1.2.1 (by decide +kernel : decode code 361 = .ok (.if_icmp .eq 1852, 3)) (by decide) (fun _ => ?_) (fun z => absurd rfl z)
  exact W.widen (by omega) (by omega) (kk _ _ _ _ _ I2 R1 hw1)
set_option maxRecDepth 100000 in
set_option maxHeartbeats 4000000 in
theorem law_c6 (C : Lx G p s m meth c b L xs) (hL : L ≤ 4096) (hl : lv_has ls 4 [(3, .int (nj (8 * i))), (2, .ref (s.heap.size + 51)), (1, .ref s.heap.size), (0, .ref b)]) (hi : 8 * i + 8 ≤ L) (I : LJ G s pm rm H) (R : Rel nc w pm rm) (hb : w + 537600 < 2147483647) (hc : cells + 158 ≤ 600000) (hz : slots + 1300 ≤ 7302250) (kk : ∀ (nc1 w1 : Nat) (pm1 rm1 : Mem) (H1 : Heap), LJ G s pm1 rm1 H1 → Rel nc1 w1 pm1 rm1 → w1 ≤ w + 537600 → WL p l e s m below meth c b H1 (cells + 158) (slots + 1300) Q ls 2213 []) : WL p l e s m below meth c b H cells slots Q ls 366 [] := by
  obtain ⟨v, p1, r1, nc1, w1, e1, e2, R1, hw1, hc1, hs1⟩ := s_firm R hb (xs (8 * i + 1)) (xs (8 * i + 2)) (fun v r' e => (R_firm_run I.2.1.1 e).2.1.1.trans I.2.1.1.1.1.symm)
  have q1 := P_firm_run I.2.2.1 e1
  have q2 := R_firm_run I.2.1.1 e2
  refine lv_aload_n (x := s.heap.size) C.1.1 C.1.2.1 (by decide +kernel : decode code 366 = .ok (.aload_n 1, 1)) rfl (lv_at hl 2 rfl) ?_
  refine law_arg (pc := 367) 1 C hL I.2.2.2.2 hl hi (by decide) (by decide +kernel) ?_
  refine law_arg (pc := 372) 2 C hL I.2.2.2.2 hl hi (by decide) (by decide +kernel) ?_
  refine law_P (pc := 377) (idx := 40) (As := [.int (xs (8 * i + 1)), .int (xs (8 * i + 2))]) (w := some (.int v)) (vs := [.int v]) C hl.1 I q1 (by decide +kernel) lc_L_40 mo_P_firm ⟨Nat.le_of_ble_eq_true rfl, Nat.le_of_ble_eq_true rfl⟩ (Nat.le_of_ble_eq_true rfl) (by show _ ≤ 600000; omega) (by show _ ≤ 7302250; omega) (fun _ => rfl) (fun _ => rfl) fun H1 I1 => ?_
  refine lv_aload_n (x := s.heap.size + 51) C.1.1 C.1.2.1 (by decide +kernel : decode code 380 = .ok (.aload_n 2, 1)) rfl (lv_at hl 1 rfl) ?_
  refine law_arg (pc := 381) 1 C hL I1.2.2.2.2 hl hi (by decide) (by decide +kernel) ?_
  refine law_arg (pc := 386) 2 C hL I1.2.2.2.2 hl hi (by decide) (by decide +kernel) ?_
  refine law_R (pc := 391) (idx := 44) (As := [.int (xs (8 * i + 1)), .int (xs (8 * i + 2))]) (rest := [.int v]) (w := some (.int v)) (vs := [.int v, .int v]) C hl.1 I1 q2 (by decide +kernel) lc_L_44 mo_R_firm ⟨Nat.le_of_ble_eq_true rfl, Nat.le_of_ble_eq_true rfl⟩ (Nat.le_of_ble_eq_true rfl) (Nat.le_of_ble_eq_true rfl) (by show _ ≤ 600000; omega) (by show _ ≤ 7302250; omega) (fun _ => rfl) (fun _ => rfl) fun H2 I2 => ?_
  refine lv_icmp_eq (tgt := 2213) C.1.1 C.1.2.1 (by decide +kernel : decode code 394 = .ok (.if_icmp .eq 1819, 3)) (by decide) (fun _ => ?_) (fun z => absurd rfl z)
  exact W.widen (by omega) (by omega) (kk _ _ _ _ _ I2 R1 hw1)
set_option maxRecDepth 100000 in
set_option maxHeartbeats 4000000 in
theorem law_c7 (C : Lx G p s m meth c b L xs) (hL : L ≤ 4096) (hl : lv_has ls 4 [(3, .int (nj (8 * i))), (2, .ref (s.heap.size + 51)), (1, .ref s.heap.size), (0, .ref b)]) (hi : 8 * i + 8 ≤ L) (I : LJ G s pm rm H) (R : Rel nc w pm rm) (hb : w + 537600 < 2147483647) (hc : cells + 158 ≤ 600000) (hz : slots + 1300 ≤ 7302250) (kk : ∀ (nc1 w1 : Nat) (pm1 rm1 : Mem) (H1 : Heap), LJ G s pm1 rm1 H1 → Rel nc1 w1 pm1 rm1 → w1 ≤ w + 537600 → WL p l e s m below meth c b H1 (cells + 158) (slots + 1300) Q ls 2213 []) : WL p l e s m below meth c b H cells slots Q ls 399 [] := by
  obtain ⟨v, p1, r1, nc1, w1, e1, e2, R1, hw1, hc1, hs1⟩ := s_person R hb (xs (8 * i + 1)) (xs (8 * i + 2)) (xs (8 * i + 3)) (fun v r' e => (R_person_run I.2.1.1 e).2.1.1.trans I.2.1.1.1.1.symm)
  have q1 := P_person_run I.2.2.1 e1
  have q2 := R_person_run I.2.1.1 e2
  refine lv_aload_n (x := s.heap.size) C.1.1 C.1.2.1 (by decide +kernel : decode code 399 = .ok (.aload_n 1, 1)) rfl (lv_at hl 2 rfl) ?_
  refine law_arg (pc := 400) 1 C hL I.2.2.2.2 hl hi (by decide) (by decide +kernel) ?_
  refine law_arg (pc := 405) 2 C hL I.2.2.2.2 hl hi (by decide) (by decide +kernel) ?_
  refine law_arg (pc := 410) 3 C hL I.2.2.2.2 hl hi (by decide) (by decide +kernel) ?_
  refine law_P (pc := 415) (idx := 45) (As := [.int (xs (8 * i + 1)), .int (xs (8 * i + 2)), .int (xs (8 * i + 3))]) (w := some (.int v)) (vs := [.int v]) C hl.1 I q1 (by decide +kernel) lc_L_45 mo_P_person ⟨Nat.le_of_ble_eq_true rfl, Nat.le_of_ble_eq_true rfl⟩ (Nat.le_of_ble_eq_true rfl) (by show _ ≤ 600000; omega) (by show _ ≤ 7302250; omega) (fun _ => rfl) (fun _ => rfl) fun H1 I1 => ?_
  refine lv_aload_n (x := s.heap.size + 51) C.1.1 C.1.2.1 (by decide +kernel : decode code 418 = .ok (.aload_n 2, 1)) rfl (lv_at hl 1 rfl) ?_
  refine law_arg (pc := 419) 1 C hL I1.2.2.2.2 hl hi (by decide) (by decide +kernel) ?_
  refine law_arg (pc := 424) 2 C hL I1.2.2.2.2 hl hi (by decide) (by decide +kernel) ?_
  refine law_arg (pc := 429) 3 C hL I1.2.2.2.2 hl hi (by decide) (by decide +kernel) ?_
  refine law_R (pc := 434) (idx := 49) (As := [.int (xs (8 * i + 1)), .int (xs (8 * i + 2)), .int (xs (8 * i + 3))]) (rest := [.int v]) (w := some (.int v)) (vs := [.int v, .int v]) C hl.1 I1 q2 (by decide +kernel) lc_L_49 mo_R_person ⟨Nat.le_of_ble_eq_true rfl, Nat.le_of_ble_eq_true rfl⟩ (Nat.le_of_ble_eq_true rfl) (Nat.le_of_ble_eq_true rfl) (by show _ ≤ 600000; omega) (by show _ ≤ 7302250; omega) (fun _ => rfl) (fun _ => rfl) fun H2 I2 => ?_
  refine lv_icmp_eq (tgt := 2213) C.1.1 C.1.2.1 (by decide +kernel : decode code 437 = .ok (.if_icmp .eq 1776, 3)) (by decide) (fun _ => ?_) (fun z => absurd rfl z)
  exact W.widen (by omega) (by omega) (kk _ _ _ _ _ I2 R1 hw1)
set_option maxRecDepth 100000 in
set_option maxHeartbeats 4000000 in
theorem law_c8 (C : Lx G p s m meth c b L xs) (hL : L ≤ 4096) (hl : lv_has ls 4 [(3, .int (nj (8 * i))), (2, .ref (s.heap.size + 51)), (1, .ref s.heap.size), (0, .ref b)]) (hi : 8 * i + 8 ≤ L) (I : LJ G s pm rm H) (R : Rel nc w pm rm) (hb : w + 537600 < 2147483647) (hc : cells + 158 ≤ 600000) (hz : slots + 1300 ≤ 7302250) (kk : ∀ (nc1 w1 : Nat) (pm1 rm1 : Mem) (H1 : Heap), LJ G s pm1 rm1 H1 → Rel nc1 w1 pm1 rm1 → w1 ≤ w + 537600 → WL p l e s m below meth c b H1 (cells + 158) (slots + 1300) Q ls 2213 []) : WL p l e s m below meth c b H cells slots Q ls 442 [] := by
  obtain ⟨v, p1, r1, nc1, w1, e1, e2, R1, hw1, hc1, hs1⟩ := s_marks R hb (xs (8 * i + 1)) (xs (8 * i + 2)) (fun v r' e => (R_marks_run I.2.1.1 e).2.1.1.trans I.2.1.1.1.1.symm)
  have q1 := P_marks_run I.2.2.1 e1
  have q2 := R_marks_run I.2.1.1 e2
  refine lv_aload_n (x := s.heap.size) C.1.1 C.1.2.1 (by decide +kernel : decode code 442 = .ok (.aload_n 1, 1)) rfl (lv_at hl 2 rfl) ?_
  refine law_arg (pc := 443) 1 C hL I.2.2.2.2 hl hi (by decide) (by decide +kernel) ?_
  refine law_arg (pc := 448) 2 C hL I.2.2.2.2 hl hi (by decide) (by decide +kernel) ?_
  refine law_P (pc := 453) (idx := 50) (As := [.int (xs (8 * i + 1)), .int (xs (8 * i + 2))]) (w := some (.int v)) (vs := [.int v]) C hl.1 I q1 (by decide +kernel) lc_L_50 mo_P_marks ⟨Nat.le_of_ble_eq_true rfl, Nat.le_of_ble_eq_true rfl⟩ (Nat.le_of_ble_eq_true rfl) (by show _ ≤ 600000; omega) (by show _ ≤ 7302250; omega) (fun _ => rfl) (fun _ => rfl) fun H1 I1 => ?_
  refine lv_aload_n (x := s.heap.size + 51) C.1.1 C.1.2.1 (by decide +kernel : decode code 456 = .ok (.aload_n 2, 1)) rfl (lv_at hl 1 rfl) ?_
  refine law_arg (pc := 457) 1 C hL I1.2.2.2.2 hl hi (by decide) (by decide +kernel) ?_
  refine law_arg (pc := 462) 2 C hL I1.2.2.2.2 hl hi (by decide) (by decide +kernel) ?_
  refine law_R (pc := 467) (idx := 54) (As := [.int (xs (8 * i + 1)), .int (xs (8 * i + 2))]) (rest := [.int v]) (w := some (.int v)) (vs := [.int v, .int v]) C hl.1 I1 q2 (by decide +kernel) lc_L_54 mo_R_marks ⟨Nat.le_of_ble_eq_true rfl, Nat.le_of_ble_eq_true rfl⟩ (Nat.le_of_ble_eq_true rfl) (Nat.le_of_ble_eq_true rfl) (by show _ ≤ 600000; omega) (by show _ ≤ 7302250; omega) (fun _ => rfl) (fun _ => rfl) fun H2 I2 => ?_
  refine lv_icmp_eq (tgt := 2213) C.1.1 C.1.2.1 (by decide +kernel : decode code 470 = .ok (.if_icmp .eq 1743, 3)) (by decide) (fun _ => ?_) (fun z => absurd rfl z)
  exact W.widen (by omega) (by omega) (kk _ _ _ _ _ I2 R1 hw1)
set_option maxRecDepth 100000 in
set_option maxHeartbeats 4000000 in
theorem law_c9 (C : Lx G p s m meth c b L xs) (hL : L ≤ 4096) (hl : lv_has ls 4 [(3, .int (nj (8 * i))), (2, .ref (s.heap.size + 51)), (1, .ref s.heap.size), (0, .ref b)]) (hi : 8 * i + 8 ≤ L) (I : LJ G s pm rm H) (R : Rel nc w pm rm) (hb : w + 537600 < 2147483647) (hc : cells + 158 ≤ 600000) (hz : slots + 1300 ≤ 7302250) (kk : ∀ (nc1 w1 : Nat) (pm1 rm1 : Mem) (H1 : Heap), LJ G s pm1 rm1 H1 → Rel nc1 w1 pm1 rm1 → w1 ≤ w + 537600 → WL p l e s m below meth c b H1 (cells + 158) (slots + 1300) Q ls 2213 []) : WL p l e s m below meth c b H cells slots Q ls 475 [] := by
  obtain ⟨v, p1, r1, nc1, w1, e1, e2, R1, hw1, hc1, hs1⟩ := s_weight R hb (xs (8 * i + 1)) (xs (8 * i + 2)) (fun v r' e => (R_weight_run I.2.1.1 e).2.1.1.trans I.2.1.1.1.1.symm)
  have q1 := P_weight_run I.2.2.1 e1
  have q2 := R_weight_run I.2.1.1 e2
  refine lv_aload_n (x := s.heap.size) C.1.1 C.1.2.1 (by decide +kernel : decode code 475 = .ok (.aload_n 1, 1)) rfl (lv_at hl 2 rfl) ?_
  refine law_arg (pc := 476) 1 C hL I.2.2.2.2 hl hi (by decide) (by decide +kernel) ?_
  refine law_arg (pc := 481) 2 C hL I.2.2.2.2 hl hi (by decide) (by decide +kernel) ?_
  refine law_P (pc := 486) (idx := 55) (As := [.int (xs (8 * i + 1)), .int (xs (8 * i + 2))]) (w := some (.int v)) (vs := [.int v]) C hl.1 I q1 (by decide +kernel) lc_L_55 mo_P_weight ⟨Nat.le_of_ble_eq_true rfl, Nat.le_of_ble_eq_true rfl⟩ (Nat.le_of_ble_eq_true rfl) (by show _ ≤ 600000; omega) (by show _ ≤ 7302250; omega) (fun _ => rfl) (fun _ => rfl) fun H1 I1 => ?_
  refine lv_aload_n (x := s.heap.size + 51) C.1.1 C.1.2.1 (by decide +kernel : decode code 489 = .ok (.aload_n 2, 1)) rfl (lv_at hl 1 rfl) ?_
  refine law_arg (pc := 490) 1 C hL I1.2.2.2.2 hl hi (by decide) (by decide +kernel) ?_
  refine law_arg (pc := 495) 2 C hL I1.2.2.2.2 hl hi (by decide) (by decide +kernel) ?_
  refine law_R (pc := 500) (idx := 58) (As := [.int (xs (8 * i + 1)), .int (xs (8 * i + 2))]) (rest := [.int v]) (w := some (.int v)) (vs := [.int v, .int v]) C hl.1 I1 q2 (by decide +kernel) lc_L_58 mo_R_weight ⟨Nat.le_of_ble_eq_true rfl, Nat.le_of_ble_eq_true rfl⟩ (Nat.le_of_ble_eq_true rfl) (Nat.le_of_ble_eq_true rfl) (by show _ ≤ 600000; omega) (by show _ ≤ 7302250; omega) (fun _ => rfl) (fun _ => rfl) fun H2 I2 => ?_
  refine lv_icmp_eq (tgt := 2213) C.1.1 C.1.2.1 (by decide +kernel : decode code 503 = .ok (.if_icmp .eq 1710, 3)) (by decide) (fun _ => ?_) (fun z => absurd rfl z)
  exact W.widen (by omega) (by omega) (kk _ _ _ _ _ I2 R1 hw1)
set_option maxRecDepth 100000 in
set_option maxHeartbeats 4000000 in
theorem law_c10 (C : Lx G p s m meth c b L xs) (hL : L ≤ 4096) (hl : lv_has ls 4 [(3, .int (nj (8 * i))), (2, .ref (s.heap.size + 51)), (1, .ref s.heap.size), (0, .ref b)]) (hi : 8 * i + 8 ≤ L) (I : LJ G s pm rm H) (R : Rel nc w pm rm) (hb : w + 537600 < 2147483647) (hc : cells + 158 ≤ 600000) (hz : slots + 1300 ≤ 7302250) (kk : ∀ (nc1 w1 : Nat) (pm1 rm1 : Mem) (H1 : Heap), LJ G s pm1 rm1 H1 → Rel nc1 w1 pm1 rm1 → w1 ≤ w + 537600 → WL p l e s m below meth c b H1 (cells + 158) (slots + 1300) Q ls 2213 []) : WL p l e s m below meth c b H cells slots Q ls 508 [] := by
  obtain ⟨v, p1, r1, nc1, w1, e1, e2, R1, hw1, hc1, hs1⟩ := s_price R hb (xs (8 * i + 1)) (xs (8 * i + 2)) (xs (8 * i + 3)) (xs (8 * i + 4)) (fun v r' e => (R_price_run I.2.1.1 e).2.1.1.trans I.2.1.1.1.1.symm)
  have q1 := P_price_run I.2.2.1 e1
  have q2 := R_price_run I.2.1.1 e2
  refine lv_aload_n (x := s.heap.size) C.1.1 C.1.2.1 (by decide +kernel : decode code 508 = .ok (.aload_n 1, 1)) rfl (lv_at hl 2 rfl) ?_
  refine law_arg (pc := 509) 1 C hL I.2.2.2.2 hl hi (by decide) (by decide +kernel) ?_
  refine law_arg (pc := 514) 2 C hL I.2.2.2.2 hl hi (by decide) (by decide +kernel) ?_
  refine law_arg (pc := 519) 3 C hL I.2.2.2.2 hl hi (by decide) (by decide +kernel) ?_
  refine law_arg (pc := 524) 4 C hL I.2.2.2.2 hl hi (by decide) (by decide +kernel) ?_
  refine law_P (pc := 529) (idx := 59) (As := [.int (xs (8 * i + 1)), .int (xs (8 * i + 2)), .int (xs (8 * i + 3)), .int (xs (8 * i + 4))]) (w := some (.int v)) (vs := [.int v]) C hl.1 I q1 (by decide +kernel) lc_L_59 mo_P_price ⟨Nat.le_of_ble_eq_true rfl, Nat.le_of_ble_eq_true rfl⟩ (Nat.le_of_ble_eq_true rfl) (by show _ ≤ 600000; omega) (by show _ ≤ 7302250; omega) (fun _ => rfl) (fun _ => rfl) fun H1 I1 => ?_
  refine lv_aload_n (x := s.heap.size + 51) C.1.1 C.1.2.1 (by decide +kernel : decode code 532 = .ok (.aload_n 2, 1)) rfl (lv_at hl 1 rfl) ?_
  refine law_arg (pc := 533) 1 C hL I1.2.2.2.2 hl hi (by decide) (by decide +kernel) ?_
  refine law_arg (pc := 538) 2 C hL I1.2.2.2.2 hl hi (by decide) (by decide +kernel) ?_
  refine law_arg (pc := 543) 3 C hL I1.2.2.2.2 hl hi (by decide) (by decide +kernel) ?_
  refine law_arg (pc := 548) 4 C hL I1.2.2.2.2 hl hi (by decide) (by decide +kernel) ?_
  refine law_R (pc := 553) (idx := 63) (As := [.int (xs (8 * i + 1)), .int (xs (8 * i + 2)), .int (xs (8 * i + 3)), .int (xs (8 * i + 4))]) (rest := [.int v]) (w := some (.int v)) (vs := [.int v, .int v]) C hl.1 I1 q2 (by decide +kernel) lc_L_63 mo_R_price ⟨Nat.le_of_ble_eq_true rfl, Nat.le_of_ble_eq_true rfl⟩ (Nat.le_of_ble_eq_true rfl) (Nat.le_of_ble_eq_true rfl) (by show _ ≤ 600000; omega) (by show _ ≤ 7302250; omega) (fun _ => rfl) (fun _ => rfl) fun H2 I2 => ?_
  refine lv_icmp_eq (tgt := 2213) C.1.1 C.1.2.1 (by decide +kernel : decode code 556 = .ok (.if_icmp .eq 1657, 3)) (by decide) (fun _ => ?_) (fun z => absurd rfl z)
  exact W.widen (by omega) (by omega) (kk _ _ _ _ _ I2 R1 hw1)
set_option maxRecDepth 100000 in
set_option maxHeartbeats 4000000 in
theorem law_c11 (C : Lx G p s m meth c b L xs) (hL : L ≤ 4096) (hl : lv_has ls 4 [(3, .int (nj (8 * i))), (2, .ref (s.heap.size + 51)), (1, .ref s.heap.size), (0, .ref b)]) (hi : 8 * i + 8 ≤ L) (I : LJ G s pm rm H) (R : Rel nc w pm rm) (hb : w + 537600 < 2147483647) (hc : cells + 158 ≤ 600000) (hz : slots + 1300 ≤ 7302250) (kk : ∀ (nc1 w1 : Nat) (pm1 rm1 : Mem) (H1 : Heap), LJ G s pm1 rm1 H1 → Rel nc1 w1 pm1 rm1 → w1 ≤ w + 537600 → WL p l e s m below meth c b H1 (cells + 158) (slots + 1300) Q ls 2213 []) : WL p l e s m below meth c b H cells slots Q ls 561 [] := by
  obtain ⟨v, p1, r1, nc1, w1, e1, e2, R1, hw1, hc1, hs1⟩ := s_wet R hb (xs (8 * i + 1)) (xs (8 * i + 2)) (xs (8 * i + 3)) (fun v r' e => (R_wet_run I.2.1.1 e).2.1.1.trans I.2.1.1.1.1.symm)
  have q1 := P_wet_run I.2.2.1 e1
  have q2 := R_wet_run I.2.1.1 e2
  refine lv_aload_n (x := s.heap.size) C.1.1 C.1.2.1 (by decide +kernel : decode code 561 = .ok (.aload_n 1, 1)) rfl (lv_at hl 2 rfl) ?_
  refine law_arg (pc := 562) 1 C hL I.2.2.2.2 hl hi (by decide) (by decide +kernel) ?_
  refine law_arg (pc := 567) 2 C hL I.2.2.2.2 hl hi (by decide) (by decide +kernel) ?_
  refine law_arg (pc := 572) 3 C hL I.2.2.2.2 hl hi (by decide) (by decide +kernel) ?_
  refine law_P (pc := 577) (idx := 64) (As := [.int (xs (8 * i + 1)), .int (xs (8 * i + 2)), .int (xs (8 * i + 3))]) (w := some (.int v)) (vs := [.int v]) C hl.1 I q1 (by decide +kernel) lc_L_64 mo_P_wet ⟨Nat.le_of_ble_eq_true rfl, Nat.le_of_ble_eq_true rfl⟩ (Nat.le_of_ble_eq_true rfl) (by show _ ≤ 600000; omega) (by show _ ≤ 7302250; omega) (fun _ => rfl) (fun _ => rfl) fun H1 I1 => ?_
  refine lv_aload_n (x := s.heap.size + 51) C.1.1 C.1.2.1 (by decide +kernel : decode code 580 = .ok (.aload_n 2, 1)) rfl (lv_at hl 1 rfl) ?_
  refine law_arg (pc := 581) 1 C hL I1.2.2.2.2 hl hi (by decide) (by decide +kernel) ?_
  refine law_arg (pc := 586) 2 C hL I1.2.2.2.2 hl hi (by decide) (by decide +kernel) ?_
  refine law_arg (pc := 591) 3 C hL I1.2.2.2.2 hl hi (by decide) (by decide +kernel) ?_
  refine law_R (pc := 596) (idx := 67) (As := [.int (xs (8 * i + 1)), .int (xs (8 * i + 2)), .int (xs (8 * i + 3))]) (rest := [.int v]) (w := some (.int v)) (vs := [.int v, .int v]) C hl.1 I1 q2 (by decide +kernel) lc_L_67 mo_R_wet ⟨Nat.le_of_ble_eq_true rfl, Nat.le_of_ble_eq_true rfl⟩ (Nat.le_of_ble_eq_true rfl) (Nat.le_of_ble_eq_true rfl) (by show _ ≤ 600000; omega) (by show _ ≤ 7302250; omega) (fun _ => rfl) (fun _ => rfl) fun H2 I2 => ?_
  refine lv_icmp_eq (tgt := 2213) C.1.1 C.1.2.1 (by decide +kernel : decode code 599 = .ok (.if_icmp .eq 1614, 3)) (by decide) (fun _ => ?_) (fun z => absurd rfl z)
  exact W.widen (by omega) (by omega) (kk _ _ _ _ _ I2 R1 hw1)
end Cs
