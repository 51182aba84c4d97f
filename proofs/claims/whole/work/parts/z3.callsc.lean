/-! Layer D: the law's calls (written by gen/law.py) -/
section Cs
variable {p : Program} {l : Launch} {e : Env} {s : State} {m : MethodId} {below : List Frame} {meth : Method} {c : Code} {b L : Nat} {xs : Nat → Int32} {G : GG} {H : Heap} {cells slots nc w i : Nat} {ls : Array Slot} {Q : State → Prop} {pm rm : Mem}
set_option maxRecDepth 100000 in
set_option maxHeartbeats 4000000 in
theorem law_c24 (C : Lx G p s m meth c b L xs) (hL : L ≤ 4096) (hl : lv_has ls 4 [(3, .int (nj (8 * i))), (2, .ref (s.heap.size + 51)), (1, .ref s.heap.size), (0, .ref b)]) (hi : 8 * i + 8 ≤ L) (I : LJ G s pm rm H) (R : Rel nc w pm rm) (hb : w + 537600 < 2147483647) (hc : cells + 158 ≤ 600000) (hz : slots + 1300 ≤ 7302250) (kk : ∀ (nc1 w1 : Nat) (pm1 rm1 : Mem) (H1 : Heap), LJ G s pm1 rm1 H1 → Rel nc1 w1 pm1 rm1 → w1 ≤ w + 537600 → WL p l e s m below meth c b H1 (cells + 158) (slots + 1300) Q ls 2213 []) : WL p l e s m below meth c b H cells slots Q ls 1110 [] := by
  obtain ⟨v, p1, r1, nc1, w1, e1, e2, R1, hw1, hc1, hs1⟩ := s_item R hb (xs (8 * i + 1)) (xs (8 * i + 2)) (xs (8 * i + 3)) (xs (8 * i + 4)) (xs (8 * i + 5)) (xs (8 * i + 6)) (fun v r' e => (R_item_run I.2.1.1 e).2.1.1.trans I.2.1.1.1.1.symm)
  have q1 := P_item_run I.2.2.1 e1
  have q2 := R_item_run I.2.1.1 e2
  refine lv_aload_n (x := s.heap.size) C.1.1 C.1.2.1 (by decide +kernel : decode code 1110 = .ok (.aload_n 1, 1)) rfl (lv_at hl 2 rfl) ?_
  refine law_arg (pc := 1111) 1 C hL I.2.2.2.2 hl hi (by decide) (by decide +kernel) ?_
  refine law_arg (pc := 1116) 2 C hL I.2.2.2.2 hl hi (by decide) (by decide +kernel) ?_
  refine law_arg (pc := 1121) 3 C hL I.2.2.2.2 hl hi (by decide) (by decide +kernel) ?_
  refine law_arg (pc := 1126) 4 C hL I.2.2.2.2 hl hi (by decide) (by decide +kernel) ?_
  refine law_arg (pc := 1131) 5 C hL I.2.2.2.2 hl hi (by decide) (by decide +kernel) ?_
  refine law_argB (pc := 1136) 6 C hL I.2.2.2.2 hl hi (by decide) (by decide +kernel) ?_
  refine law_P (pc := 1142) (idx := 116) (As := [.int (xs (8 * i + 1)), .int (xs (8 * i + 2)), .int (xs (8 * i + 3)), .int (xs (8 * i + 4)), .int (xs (8 * i + 5)), .int (xs (8 * i + 6))]) (w := some (.int v)) (vs := [.int v]) C hl.1 I q1 (by decide +kernel) lc_L_116 mo_P_item ⟨Nat.le_of_ble_eq_true rfl, Nat.le_of_ble_eq_true rfl⟩ (Nat.le_of_ble_eq_true rfl) (by show _ ≤ 600000; omega) (by show _ ≤ 7302250; omega) (fun _ => rfl) (fun _ => rfl) fun H1 I1 => ?_
  refine lv_aload_n (x := s.heap.size + 51) C.1.1 C.1.2.1 (by decide +kernel : decode code 1145 = .ok (.aload_n 2, 1)) rfl (lv_at hl 1 rfl) ?_
  refine law_arg (pc := 1146) 1 C hL I1.2.2.2.2 hl hi (by decide) (by decide +kernel) ?_
  refine law_arg (pc := 1151) 2 C hL I1.2.2.2.2 hl hi (by decide) (by decide +kernel) ?_
  refine law_arg (pc := 1156) 3 C hL I1.2.2.2.2 hl hi (by decide) (by decide +kernel) ?_
  refine law_arg (pc := 1161) 4 C hL I1.2.2.2.2 hl hi (by decide) (by decide +kernel) ?_
  refine law_arg (pc := 1166) 5 C hL I1.2.2.2.2 hl hi (by decide) (by decide +kernel) ?_
  refine law_argB (pc := 1171) 6 C hL I1.2.2.2.2 hl hi (by decide) (by decide +kernel) ?_
  refine law_R (pc := 1177) (idx := 120) (As := [.int (xs (8 * i + 1)), .int (xs (8 * i + 2)), .int (xs (8 * i + 3)), .int (xs (8 * i + 4)), .int (xs (8 * i + 5)), .int (xs (8 * i + 6))]) (rest := [.int v]) (w := some (.int v)) (vs := [.int v, .int v]) C hl.1 I1 q2 (by decide +kernel) lc_L_120 mo_R_item ⟨Nat.le_of_ble_eq_true rfl, Nat.le_of_ble_eq_true rfl⟩ (Nat.le_of_ble_eq_true rfl) (Nat.le_of_ble_eq_true rfl) (by show _ ≤ 600000; omega) (by show _ ≤ 7302250; omega) (fun _ => rfl) (fun _ => rfl) fun H2 I2 => ?_
  refine lv_icmp_eq (tgt := 2213) C.1.1 C.1.2.1 (by decide +kernel : decode code 1180 = .ok (.if_icmp .eq 1033, 3)) (by decide) (fun _ => ?_) (fun z => absurd rfl z)
  exact W.widen (by omega) (by omega) (kk _ _ _ _ _ I2 R1 hw1)
set_option maxRecDepth 100000 in
set_option maxHeartbeats 4000000 in
theorem law_c25 (C : Lx G p s m meth c b L xs) (hL : L ≤ 4096) (hl : lv_has ls 4 [(3, .int (nj (8 * i))), (2, .ref (s.heap.size + 51)), (1, .ref s.heap.size), (0, .ref b)]) (hi : 8 * i + 8 ≤ L) (I : LJ G s pm rm H) (R : Rel nc w pm rm) (hb : w + 537600 < 2147483647) (hc : cells + 158 ≤ 600000) (hz : slots + 1300 ≤ 7302250) (kk : ∀ (nc1 w1 : Nat) (pm1 rm1 : Mem) (H1 : Heap), LJ G s pm1 rm1 H1 → Rel nc1 w1 pm1 rm1 → w1 ≤ w + 537600 → WL p l e s m below meth c b H1 (cells + 158) (slots + 1300) Q ls 2213 []) : WL p l e s m below meth c b H cells slots Q ls 1185 [] := by
  obtain ⟨v, p1, r1, nc1, w1, e1, e2, R1, hw1, hc1, hs1⟩ := s_margin R hb (xs (8 * i + 1)) (xs (8 * i + 2)) (xs (8 * i + 3)) (xs (8 * i + 4)) (xs (8 * i + 5)) (fun v r' e => (R_margin_run I.2.1.1 e).2.1.1.trans I.2.1.1.1.1.symm)
  have q1 := P_margin_run I.2.2.1 e1
  have q2 := R_margin_run I.2.1.1 e2
  refine lv_aload_n (x := s.heap.size) C.1.1 C.1.2.1 (by decide +kernel : decode code 1185 = .ok (.aload_n 1, 1)) rfl (lv_at hl 2 rfl) ?_
  refine law_arg (pc := 1186) 1 C hL I.2.2.2.2 hl hi (by decide) (by decide +kernel) ?_
  refine law_arg (pc := 1191) 2 C hL I.2.2.2.2 hl hi (by decide) (by decide +kernel) ?_
  refine law_arg (pc := 1196) 3 C hL I.2.2.2.2 hl hi (by decide) (by decide +kernel) ?_
  refine law_arg (pc := 1201) 4 C hL I.2.2.2.2 hl hi (by decide) (by decide +kernel) ?_
  refine law_arg (pc := 1206) 5 C hL I.2.2.2.2 hl hi (by decide) (by decide +kernel) ?_
  refine law_P (pc := 1211) (idx := 121) (As := [.int (xs (8 * i + 1)), .int (xs (8 * i + 2)), .int (xs (8 * i + 3)), .int (xs (8 * i + 4)), .int (xs (8 * i + 5))]) (w := some (.int v)) (vs := [.int v]) C hl.1 I q1 (by decide +kernel) lc_L_121 mo_P_margin ⟨Nat.le_of_ble_eq_true rfl, Nat.le_of_ble_eq_true rfl⟩ (Nat.le_of_ble_eq_true rfl) (by show _ ≤ 600000; omega) (by show _ ≤ 7302250; omega) (fun _ => rfl) (fun _ => rfl) fun H1 I1 => ?_
  refine lv_aload_n (x := s.heap.size + 51) C.1.1 C.1.2.1 (by decide +kernel : decode code 1214 = .ok (.aload_n 2, 1)) rfl (lv_at hl 1 rfl) ?_
  refine law_arg (pc := 1215) 1 C hL I1.2.2.2.2 hl hi (by decide) (by decide +kernel) ?_
  refine law_arg (pc := 1220) 2 C hL I1.2.2.2.2 hl hi (by decide) (by decide +kernel) ?_
  refine law_arg (pc := 1225) 3 C hL I1.2.2.2.2 hl hi (by decide) (by decide +kernel) ?_
  refine law_arg (pc := 1230) 4 C hL I1.2.2.2.2 hl hi (by decide) (by decide +kernel) ?_
  refine law_arg (pc := 1235) 5 C hL I1.2.2.2.2 hl hi (by decide) (by decide +kernel) ?_
  refine law_R (pc := 1240) (idx := 124) (As := [.int (xs (8 * i + 1)), .int (xs (8 * i + 2)), .int (xs (8 * i + 3)), .int (xs (8 * i + 4)), .int (xs (8 * i + 5))]) (rest := [.int v]) (w := some (.int v)) (vs := [.int v, .int v]) C hl.1 I1 q2 (by decide +kernel) lc_L_124 mo_R_margin ⟨Nat.le_of_ble_eq_true rfl, Nat.le_of_ble_eq_true rfl⟩ (Nat.le_of_ble_eq_true rfl) (Nat.le_of_ble_eq_true rfl) (by show _ ≤ 600000; omega) (by show _ ≤ 7302250; omega) (fun _ => rfl) (fun _ => rfl) fun H2 I2 => ?_
  refine lv_icmp_eq (tgt := 2213) C.1.1 C.1.2.1 (by decide +kernel : decode code 1243 = .ok (.if_icmp .eq 970, 3)) (by decide) (fun _ => ?_) (fun z => absurd rfl z)
  exact W.widen (by omega) (by omega) (kk _ _ _ _ _ I2 R1 hw1)
set_option maxRecDepth 100000 in
set_option maxHeartbeats 4000000 in
theorem law_c26 (C : Lx G p s m meth c b L xs) (hL : L ≤ 4096) (hl : lv_has ls 4 [(3, .int (nj (8 * i))), (2, .ref (s.heap.size + 51)), (1, .ref s.heap.size), (0, .ref b)]) (hi : 8 * i + 8 ≤ L) (I : LJ G s pm rm H) (R : Rel nc w pm rm) (hb : w + 537600 < 2147483647) (hc : cells + 158 ≤ 600000) (hz : slots + 1300 ≤ 7302250) (kk : ∀ (nc1 w1 : Nat) (pm1 rm1 : Mem) (H1 : Heap), LJ G s pm1 rm1 H1 → Rel nc1 w1 pm1 rm1 → w1 ≤ w + 537600 → WL p l e s m below meth c b H1 (cells + 158) (slots + 1300) Q ls 2213 []) : WL p l e s m below meth c b H cells slots Q ls 1248 [] := by
  obtain ⟨v, p1, r1, nc1, w1, e1, e2, R1, hw1, hc1, hs1⟩ := s_did R hb (xs (8 * i + 1)) (xs (8 * i + 2)) (xs (8 * i + 3)) (xs (8 * i + 4)) (fun v r' e => (R_did_run I.2.1.1 e).2.1.1.trans I.2.1.1.1.1.symm)
  have q1 := P_did_run I.2.2.1 e1
  have q2 := R_did_run I.2.1.1 e2
  refine lv_aload_n (x := s.heap.size) C.1.1 C.1.2.1 (by decide +kernel : decode code 1248 = .ok (.aload_n 1, 1)) rfl (lv_at hl 2 rfl) ?_
  refine law_arg (pc := 1249) 1 C hL I.2.2.2.2 hl hi (by decide) (by decide +kernel) ?_
  refine law_arg (pc := 1254) 2 C hL I.2.2.2.2 hl hi (by decide) (by decide +kernel) ?_
  refine law_arg (pc := 1259) 3 C hL I.2.2.2.2 hl hi (by decide) (by decide +kernel) ?_
  refine law_arg (pc := 1264) 4 C hL I.2.2.2.2 hl hi (by decide) (by decide +kernel) ?_
  refine law_P (pc := 1269) (idx := 125) (As := [.int (xs (8 * i + 1)), .int (xs (8 * i + 2)), .int (xs (8 * i + 3)), .int (xs (8 * i + 4))]) (w := some (.int v)) (vs := [.int v]) C hl.1 I q1 (by decide +kernel) lc_L_125 mo_P_did ⟨Nat.le_of_ble_eq_true rfl, Nat.le_of_ble_eq_true rfl⟩ (Nat.le_of_ble_eq_true rfl) (by show _ ≤ 600000; omega) (by show _ ≤ 7302250; omega) (fun _ => rfl) (fun _ => rfl) fun H1 I1 => ?_
  refine lv_aload_n (x := s.heap.size + 51) C.1.1 C.1.2.1 (by decide +kernel : decode code 1272 = .ok (.aload_n 2, 1)) rfl (lv_at hl 1 rfl) ?_
  refine law_arg (pc := 1273) 1 C hL I1.2.2.2.2 hl hi (by decide) (by decide +kernel) ?_
  refine law_arg (pc := 1278) 2 C hL I1.2.2.2.2 hl hi (by decide) (by decide +kernel) ?_
  refine law_arg (pc := 1283) 3 C hL I1.2.2.2.2 hl hi (by decide) (by decide +kernel) ?_
  refine law_arg (pc := 1288) 4 C hL I1.2.2.2.2 hl hi (by decide) (by decide +kernel) ?_
  refine law_R (pc := 1293) (idx := 128) (As := [.int (xs (8 * i + 1)), .int (xs (8 * i + 2)), .int (xs (8 * i + 3)), .int (xs (8 * i + 4))]) (rest := [.int v]) (w := some (.int v)) (vs := [.int v, .int v]) C hl.1 I1 q2 (by decide +kernel) lc_L_128 mo_R_did ⟨Nat.le_of_ble_eq_true rfl, Nat.le_of_ble_eq_true rfl⟩ (Nat.le_of_ble_eq_true rfl) (Nat.le_of_ble_eq_true rfl) (by show _ ≤ 600000; omega) (by show _ ≤ 7302250; omega) (fun _ => rfl) (fun _ => rfl) fun H2 I2 => ?_
  refine lv_icmp_eq (tgt := 2213) C.1.1 C.1.2.1 (by decide +kernel : decode code 1296 = .ok (.if_icmp .eq 917, 3)) (by decide) (fun _ => ?_) (fun z => absurd rfl z)
  exact W.widen (by omega) (by omega) (kk _ _ _ _ _ I2 R1 hw1)
set_option maxRecDepth 100000 in
set_option maxHeartbeats 4000000 in
theorem law_c27 (C : Lx G p s m meth c b L xs) (hL : L ≤ 4096) (hl : lv_has ls 4 [(3, .int (nj (8 * i))), (2, .ref (s.heap.size + 51)), (1, .ref s.heap.size), (0, .ref b)]) (hi : 8 * i + 8 ≤ L) (I : LJ G s pm rm H) (R : Rel nc w pm rm) (hb : w + 537600 < 2147483647) (hc : cells + 158 ≤ 600000) (hz : slots + 1300 ≤ 7302250) (kk : ∀ (nc1 w1 : Nat) (pm1 rm1 : Mem) (H1 : Heap), LJ G s pm1 rm1 H1 → Rel nc1 w1 pm1 rm1 → w1 ≤ w + 537600 → WL p l e s m below meth c b H1 (cells + 158) (slots + 1300) Q ls 2213 []) : WL p l e s m below meth c b H cells slots Q ls 1301 [] := by
  obtain ⟨v, p1, r1, nc1, w1, e1, e2, R1, hw1, hc1, hs1⟩ := s_bound R hb (xs (8 * i + 1)) (xs (8 * i + 2)) (xs (8 * i + 3)) (xs (8 * i + 4)) (fun v r' e => (R_bound_run I.2.1.1 e).2.1.1.trans I.2.1.1.1.1.symm)
  have q1 := P_bound_run I.2.2.1 e1
  have q2 := R_bound_run I.2.1.1 e2
  refine lv_aload_n (x := s.heap.size) C.1.1 C.1.2.1 (by decide +kernel : decode code 1301 = .ok (.aload_n 1, 1)) rfl (lv_at hl 2 rfl) ?_
  refine law_arg (pc := 1302) 1 C hL I.2.2.2.2 hl hi (by decide) (by decide +kernel) ?_
  refine law_arg (pc := 1307) 2 C hL I.2.2.2.2 hl hi (by decide) (by decide +kernel) ?_
  refine law_arg (pc := 1312) 3 C hL I.2.2.2.2 hl hi (by decide) (by decide +kernel) ?_
  refine law_arg (pc := 1317) 4 C hL I.2.2.2.2 hl hi (by decide) (by decide +kernel) ?_
  refine law_P (pc := 1322) (idx := 129) (As := [.int (xs (8 * i + 1)), .int (xs (8 * i + 2)), .int (xs (8 * i + 3)), .int (xs (8 * i + 4))]) (w := some (.int v)) (vs := [.int v]) C hl.1 I q1 (by decide +kernel) lc_L_129 mo_P_bound ⟨Nat.le_of_ble_eq_true rfl, Nat.le_of_ble_eq_true rfl⟩ (Nat.le_of_ble_eq_true rfl) (by show _ ≤ 600000; omega) (by show _ ≤ 7302250; omega) (fun _ => rfl) (fun _ => rfl) fun H1 I1 => ?_
  refine lv_aload_n (x := s.heap.size + 51) C.1.1 C.1.2.1 (by decide +kernel : decode code 1325 = .ok (.aload_n 2, 1)) rfl (lv_at hl 1 rfl) ?_
  refine law_arg (pc := 1326) 1 C hL I1.2.2.2.2 hl hi (by decide) (by decide +kernel) ?_
  refine law_arg (pc := 1331) 2 C hL I1.2.2.2.2 hl hi (by decide) (by decide +kernel) ?_
  refine law_arg (pc := 1336) 3 C hL I1.2.2.2.2 hl hi (by decide) (by decide +kernel) ?_
  refine law_arg (pc := 1341) 4 C hL I1.2.2.2.2 hl hi (by decide) (by decide +kernel) ?_
  refine law_R (pc := 1346) (idx := 132) (As := [.int (xs (8 * i + 1)), .int (xs (8 * i + 2)), .int (xs (8 * i + 3)), .int (xs (8 * i + 4))]) (rest := [.int v]) (w := some (.int v)) (vs := [.int v, .int v]) C hl.1 I1 q2 (by decide +kernel) lc_L_132 mo_R_bound ⟨Nat.le_of_ble_eq_true rfl, Nat.le_of_ble_eq_true rfl⟩ (Nat.le_of_ble_eq_true rfl) (Nat.le_of_ble_eq_true rfl) (by show _ ≤ 600000; omega) (by show _ ≤ 7302250; omega) (fun _ => rfl) (fun _ => rfl) fun H2 I2 => ?_
  refine lv_icmp_eq (tgt := 2213) C.1.1 C.1.2.1 (by decide +kernel : decode code 1349 = .ok (.if_icmp .eq 864, 3)) (by decide) (fun _ => ?_) (fun z => absurd rfl z)
  exact W.widen (by omega) (by omega) (kk _ _ _ _ _ I2 R1 hw1)
set_option maxRecDepth 100000 in
set_option maxHeartbeats 4000000 in
theorem law_c28 (C : Lx G p s m meth c b L xs) (hL : L ≤ 4096) (hl : lv_has ls 4 [(3, .int (nj (8 * i))), (2, .ref (s.heap.size + 51)), (1, .ref s.heap.size), (0, .ref b)]) (hi : 8 * i + 8 ≤ L) (I : LJ G s pm rm H) (R : Rel nc w pm rm) (hb : w + 537600 < 2147483647) (hc : cells + 158 ≤ 600000) (hz : slots + 1300 ≤ 7302250) (kk : ∀ (nc1 w1 : Nat) (pm1 rm1 : Mem) (H1 : Heap), LJ G s pm1 rm1 H1 → Rel nc1 w1 pm1 rm1 → w1 ≤ w + 537600 → WL p l e s m below meth c b H1 (cells + 158) (slots + 1300) Q ls 2213 []) : WL p l e s m below meth c b H cells slots Q ls 1354 [] := by
  obtain ⟨v, p1, r1, nc1, w1, e1, e2, R1, hw1, hc1, hs1⟩ := s_classed R hb (xs (8 * i + 1)) (xs (8 * i + 2)) (xs (8 * i + 3)) (xs (8 * i + 4)) (fun v r' e => (R_classed_run I.2.1.1 e).2.1.1.trans I.2.1.1.1.1.symm)
  have q1 := P_classed_run I.2.2.1 e1
  have q2 := R_classed_run I.2.1.1 e2
  refine lv_aload_n (x := s.heap.size) C.1.1 C.1.2.1 (by decide +kernel : decode code 1354 = .ok (.aload_n 1, 1)) rfl (lv_at hl 2 rfl) ?_
  refine law_arg (pc := 1355) 1 C hL I.2.2.2.2 hl hi (by decide) (by decide +kernel) ?_
  refine law_arg (pc := 1360) 2 C hL I.2.2.2.2 hl hi (by decide) (by decide +kernel) ?_
  refine law_arg (pc := 1365) 3 C hL I.2.2.2.2 hl hi (by decide) (by decide +kernel) ?_
  refine law_arg (pc := 1370) 4 C hL I.2.2.2.2 hl hi (by decide) (by decide +kernel) ?_
  refine law_P (pc := 1375) (idx := 133) (As := [.int (xs (8 * i + 1)), .int (xs (8 * i + 2)), .int (xs (8 * i + 3)), .int (xs (8 * i + 4))]) (w := some (.int v)) (vs := [.int v]) C hl.1 I q1 (by decide +kernel) lc_L_133 mo_P_classed ⟨Nat.le_of_ble_eq_true rfl, Nat.le_of_ble_eq_true rfl⟩ (Nat.le_of_ble_eq_true rfl) (by show _ ≤ 600000; omega) (by show _ ≤ 7302250; omega) (fun _ => rfl) (fun _ => rfl) fun H1 I1 => ?_
  refine lv_aload_n (x := s.heap.size + 51) C.1.1 C.1.2.1 (by decide +kernel : decode code 1378 = .ok (.aload_n 2, 1)) rfl (lv_at hl 1 rfl) ?_
  refine law_arg (pc := 1379) 1 C hL I1.2.2.2.2 hl hi (by decide) (by decide +kernel) ?_
  refine law_arg (pc := 1384) 2 C hL I1.2.2.2.2 hl hi (by decide) (by decide +kernel) ?_
  refine law_arg (pc := 1389) 3 C hL I1.2.2.2.2 hl hi (by decide) (by decide +kernel) ?_
  refine law_arg (pc := 1394) 4 C hL I1.2.2.2.2 hl hi (by decide) (by decide +kernel) ?_
  refine law_R (pc := 1399) (idx := 136) (As := [.int (xs (8 * i + 1)), .int (xs (8 * i + 2)), .int (xs (8 * i + 3)), .int (xs (8 * i + 4))]) (rest := [.int v]) (w := some (.int v)) (vs := [.int v, .int v]) C hl.1 I1 q2 (by decide +kernel) lc_L_136 mo_R_classed ⟨Nat.le_of_ble_eq_true rfl, Nat.le_of_ble_eq_true rfl⟩ (Nat.le_of_ble_eq_true rfl) (Nat.le_of_ble_eq_true rfl) (by show _ ≤ 600000; omega) (by show _ ≤ 7302250; omega) (fun _ => rfl) (fun _ => rfl) fun H2 I2 => ?_
  refine lv_icmp_eq (tgt := 2213) C.1.1 C.1.2.1 (by decide +kernel : decode code 1402 = .ok (.if_icmp .eq 811, 3)) (by decide) (fun _ => ?_) (fun z => absurd rfl z)
  exact W.widen (by omega) (by omega) (kk _ _ _ _ _ I2 R1 hw1)
set_option maxRecDepth 100000 in
set_option maxHeartbeats 4000000 in
theorem law_c29 (C : Lx G p s m meth c b L xs) (hL : L ≤ 4096) (hl : lv_has ls 4 [(3, .int (nj (8 * i))), (2, .ref (s.heap.size + 51)), (1, .ref s.heap.size), (0, .ref b)]) (hi : 8 * i + 8 ≤ L) (I : LJ G s pm rm H) (R : Rel nc w pm rm) (hb : w + 537600 < 2147483647) (hc : cells + 158 ≤ 600000) (hz : slots + 1300 ≤ 7302250) (kk : ∀ (nc1 w1 : Nat) (pm1 rm1 : Mem) (H1 : Heap), LJ G s pm1 rm1 H1 → Rel nc1 w1 pm1 rm1 → w1 ≤ w + 537600 → WL p l e s m below meth c b H1 (cells + 158) (slots + 1300) Q ls 2213 []) : WL p l e s m below meth c b H cells slots Q ls 1407 [] := by
  obtain ⟨v, p1, r1, nc1, w1, e1, e2, R1, hw1, hc1, hs1⟩ := s_nearest R hb (xs (8 * i + 1)) (xs (8 * i + 2)) (xs (8 * i + 3)) (xs (8 * i + 4)) (fun v r' e => (R_nearest_run I.2.1.1 e).2.1.1.trans I.2.1.1.1.1.symm)
  have q1 := P_nearest_run I.2.2.1 e1
  have q2 := R_nearest_run I.2.1.1 e2
  refine lv_aload_n (x := s.heap.size) C.1.1 C.1.2.1 (by decide +kernel : decode code 1407 = .ok (.aload_n 1, 1)) rfl (lv_at hl 2 rfl) ?_
  refine law_arg (pc := 1408) 1 C hL I.2.2.2.2 hl hi (by decide) (by decide +kernel) ?_
  refine law_arg (pc := 1413) 2 C hL I.2.2.2.2 hl hi (by decide) (by decide +kernel) ?_
  refine law_arg (pc := 1418) 3 C hL I.2.2.2.2 hl hi (by decide) (by decide +kernel) ?_
  refine law_arg (pc := 1423) 4 C hL I.2.2.2.2 hl hi (by decide) (by decide +kernel) ?_
  refine law_P (pc := 1428) (idx := 137) (As := [.int (xs (8 * i + 1)), .int (xs (8 * i + 2)), .int (xs (8 * i + 3)), .int (xs (8 * i + 4))]) (w := some (.int v)) (vs := [.int v]) C hl.1 I q1 (by decide +kernel) lc_L_137 mo_P_nearest ⟨Nat.le_of_ble_eq_true rfl, Nat.le_of_ble_eq_true rfl⟩ (Nat.le_of_ble_eq_true rfl) (by show _ ≤ 600000; omega) (by show _ ≤ 7302250; omega) (fun _ => rfl) (fun _ => rfl) fun H1 I1 => ?_
  refine lv_aload_n (x := s.heap.size + 51) C.1.1 C.1.2.1 (by decide +kernel : decode code 1431 = .ok (.aload_n 2, 1)) rfl (lv_at hl 1 rfl) ?_
  refine law_arg (pc := 1432) 1 C hL I1.2.2.2.2 hl hi (by decide) (by decide +kernel) ?_
  refine law_arg (pc := 1437) 2 C hL I1.2.2.2.2 hl hi (by decide) (by decide +kernel) ?_
  refine law_arg (pc := 1442) 3 C hL I1.2.2.2.2 hl hi (by decide) (by decide +kernel) ?_
  refine law_arg (pc := 1447) 4 C hL I1.2.2.2.2 hl hi (by decide) (by decide +kernel) ?_
  refine law_R (pc := 1452) (idx := 140) (As := [.int (xs (8 * i + 1)), .int (xs (8 * i + 2)), .int (xs (8 * i + 3)), .int (xs (8 * i + 4))]) (rest := [.int v]) (w := some (.int v)) (vs := [.int v, .int v]) C hl.1 I1 q2 (by decide +kernel) lc_L_140 mo_R_nearest ⟨Nat.le_of_ble_eq_true rfl, Nat.le_of_ble_eq_true rfl⟩ (Nat.le_of_ble_eq_true rfl) (Nat.le_of_ble_eq_true rfl) (by show _ ≤ 600000; omega) (by show _ ≤ 7302250; omega) (fun _ => rfl) (fun _ => rfl) fun H2 I2 => ?_
  refine lv_icmp_eq (tgt := 2213) C.1.1 C.1.2.1 (by decide +kernel : decode code 1455 = .ok (.if_icmp .eq 758, 3)) (by decide) (fun _ => ?_) (fun z => absurd rfl z)
  exact W.widen (by omega) (by omega) (kk _ _ _ _ _ I2 R1 hw1)
set_option maxRecDepth 100000 in
set_option maxHeartbeats 4000000 in
theorem law_c30 (C : Lx G p s m meth c b L xs) (hL : L ≤ 4096) (hl : lv_has ls 4 [(3, .int (nj (8 * i))), (2, .ref (s.heap.size + 51)), (1, .ref s.heap.size), (0, .ref b)]) (hi : 8 * i + 8 ≤ L) (I : LJ G s pm rm H) (R : Rel nc w pm rm) (hb : w + 537600 < 2147483647) (hc : cells + 158 ≤ 600000) (hz : slots + 1300 ≤ 7302250) (kk : ∀ (nc1 w1 : Nat) (pm1 rm1 : Mem) (H1 : Heap), LJ G s pm1 rm1 H1 → Rel nc1 w1 pm1 rm1 → w1 ≤ w + 537600 → WL p l e s m below meth c b H1 (cells + 158) (slots + 1300) Q ls 2213 []) : WL p l e s m below meth c b H cells slots Q ls 1460 [] := by
  obtain ⟨v, p1, r1, nc1, w1, e1, e2, R1, hw1, hc1, hs1⟩ := s_payer R hb (xs (8 * i + 1)) (xs (8 * i + 2)) (xs (8 * i + 3)) (xs (8 * i + 4)) (fun v r' e => (R_payer_run I.2.1.1 e).2.1.1.trans I.2.1.1.1.1.symm)
  have q1 := P_payer_run I.2.2.1 e1
  have q2 := R_payer_run I.2.1.1 e2
  refine lv_aload_n (x := s.heap.size) C.1.1 C.1.2.1 (by decide +kernel : decode code 1460 = .ok (.aload_n 1, 1)) rfl (lv_at hl 2 rfl) ?_
  refine law_arg (pc := 1461) 1 C hL I.2.2.2.2 hl hi (by decide) (by decide +kernel) ?_
  refine law_arg (pc := 1466) 2 C hL I.2.2.2.2 hl hi (by decide) (by decide +kernel) ?_
  refine law_arg (pc := 1471) 3 C hL I.2.2.2.2 hl hi (by decide) (by decide +kernel) ?_
  refine law_arg (pc := 1476) 4 C hL I.2.2.2.2 hl hi (by decide) (by decide +kernel) ?_
  refine law_P (pc := 1481) (idx := 141) (As := [.int (xs (8 * i + 1)), .int (xs (8 * i + 2)), .int (xs (8 * i + 3)), .int (xs (8 * i + 4))]) (w := some (.int v)) (vs := [.int v]) C hl.1 I q1 (by decide +kernel) lc_L_141 mo_P_payer ⟨Nat.le_of_ble_eq_true rfl, Nat.le_of_ble_eq_true rfl⟩ (Nat.le_of_ble_eq_true rfl) (by show _ ≤ 600000; omega) (by show _ ≤ 7302250; omega) (fun _ => rfl) (fun _ => rfl) fun H1 I1 => ?_
  refine lv_aload_n (x := s.heap.size + 51) C.1.1 C.1.2.1 (by decide +kernel : decode code 1484 = .ok (.aload_n 2, 1)) rfl (lv_at hl 1 rfl) ?_
  refine law_arg (pc := 1485) 1 C hL I1.2.2.2.2 hl hi (by decide) (by decide +kernel) ?_
  refine law_arg (pc := 1490) 2 C hL I1.2.2.2.2 hl hi (by decide) (by decide +kernel) ?_
  refine law_arg (pc := 1495) 3 C hL I1.2.2.2.2 hl hi (by decide) (by decide +kernel) ?_
  refine law_arg (pc := 1500) 4 C hL I1.2.2.2.2 hl hi (by decide) (by decide +kernel) ?_
  refine law_R (pc := 1505) (idx := 144) (As := [.int (xs (8 * i + 1)), .int (xs (8 * i + 2)), .int (xs (8 * i + 3)), .int (xs (8 * i + 4))]) (rest := [.int v]) (w := some (.int v)) (vs := [.int v, .int v]) C hl.1 I1 q2 (by decide +kernel) lc_L_144 mo_R_payer ⟨Nat.le_of_ble_eq_true rfl, Nat.le_of_ble_eq_true rfl⟩ (Nat.le_of_ble_eq_true rfl) (Nat.le_of_ble_eq_true rfl) (by show _ ≤ 600000; omega) (by show _ ≤ 7302250; omega) (fun _ => rfl) (fun _ => rfl) fun H2 I2 => ?_
  refine lv_icmp_eq (tgt := 2213) C.1.1 C.1.2.1 (by decide +kernel : decode code 1508 = .ok (.if_icmp .eq 705, 3)) (by decide) (fun _ => ?_) (fun z => absurd rfl z)
  exact W.widen (by omega) (by omega) (kk _ _ _ _ _ I2 R1 hw1)
set_option maxRecDepth 100000 in
set_option maxHeartbeats 4000000 in
theorem law_c31 (C : Lx G p s m meth c b L xs) (hL : L ≤ 4096) (hl : lv_has ls 4 [(3, .int (nj (8 * i))), (2, .ref (s.heap.size + 51)), (1, .ref s.heap.size), (0, .ref b)]) (hi : 8 * i + 8 ≤ L) (I : LJ G s pm rm H) (R : Rel nc w pm rm) (hb : w + 537600 < 2147483647) (hc : cells + 158 ≤ 600000) (hz : slots + 1300 ≤ 7302250) (kk : ∀ (nc1 w1 : Nat) (pm1 rm1 : Mem) (H1 : Heap), LJ G s pm1 rm1 H1 → Rel nc1 w1 pm1 rm1 → w1 ≤ w + 537600 → WL p l e s m below meth c b H1 (cells + 158) (slots + 1300) Q ls 2213 []) : WL p l e s m below meth c b H cells slots Q ls 1513 [] := by
  obtain ⟨v, p1, r1, nc1, w1, e1, e2, R1, hw1, hc1, hs1⟩ := s_rate R hb (xs (8 * i + 1)) (xs (8 * i + 2)) (xs (8 * i + 3)) (xs (8 * i + 4)) (fun v r' e => (R_rate_run I.2.1.1 e).2.1.1.trans I.2.1.1.1.1.symm)
  have q1 := P_rate_run I.2.2.1 e1
  have q2 := R_rate_run I.2.1.1 e2
  refine lv_aload_n (x := s.heap.size) C.1.1 C.1.2.1 (by decide +kernel : decode code 1513 = .ok (.aload_n 1, 1)) rfl (lv_at hl 2 rfl) ?_
  refine law_arg (pc := 1514) 1 C hL I.2.2.2.2 hl hi (by decide) (by decide +kernel) ?_
  refine law_arg (pc := 1519) 2 C hL I.2.2.2.2 hl hi (by decide) (by decide +kernel) ?_
  refine law_arg (pc := 1524) 3 C hL I.2.2.2.2 hl hi (by decide) (by decide +kernel) ?_
  refine law_arg (pc := 1529) 4 C hL I.2.2.2.2 hl hi (by decide) (by decide +kernel) ?_
  refine law_P (pc := 1534) (idx := 145) (As := [.int (xs (8 * i + 1)), .int (xs (8 * i + 2)), .int (xs (8 * i + 3)), .int (xs (8 * i + 4))]) (w := some (.int v)) (vs := [.int v]) C hl.1 I q1 (by decide +kernel) lc_L_145 mo_P_rate ⟨Nat.le_of_ble_eq_true rfl, Nat.le_of_ble_eq_true rfl⟩ (Nat.le_of_ble_eq_true rfl) (by show _ ≤ 600000; omega) (by show _ ≤ 7302250; omega) (fun _ => rfl) (fun _ => rfl) fun H1 I1 => ?_
  refine lv_aload_n (x := s.heap.size + 51) C.1.1 C.1.2.1 (by decide +kernel : decode code 1537 = .ok (.aload_n 2, 1)) rfl (lv_at hl 1 rfl) ?_
  refine law_arg (pc := 1538) 1 C hL I1.2.2.2.2 hl hi (by decide) (by decide +kernel) ?_
  refine law_arg (pc := 1543) 2 C hL I1.2.2.2.2 hl hi (by decide) (by decide +kernel) ?_
  refine law_arg (pc := 1548) 3 C hL I1.2.2.2.2 hl hi (by decide) (by decide +kernel) ?_
  refine law_arg (pc := 1553) 4 C hL I1.2.2.2.2 hl hi (by decide) (by decide +kernel) ?_
  refine law_R (pc := 1558) (idx := 148) (As := [.int (xs (8 * i + 1)), .int (xs (8 * i + 2)), .int (xs (8 * i + 3)), .int (xs (8 * i + 4))]) (rest := [.int v]) (w := some (.int v)) (vs := [.int v, .int v]) C hl.1 I1 q2 (by decide +kernel) lc_L_148 mo_R_rate ⟨Nat.le_of_ble_eq_true rfl, Nat.le_of_ble_eq_true rfl⟩ (Nat.le_of_ble_eq_true rfl) (Nat.le_of_ble_eq_true rfl) (by show _ ≤ 600000; omega) (by show _ ≤ 7302250; omega) (fun _ => rfl) (fun _ => rfl) fun H2 I2 => ?_
  refine lv_icmp_eq (tgt := 2213) C.1.1 C.1.2.1 (by decide +kernel : decode code 1561 = .ok (.if_icmp .eq 652, 3)) (by decide) (fun _ => ?_) (fun z => absurd rfl z)
  exact W.widen (by omega) (by omega) (kk _ _ _ _ _ I2 R1 hw1)
set_option maxRecDepth 100000 in
set_option maxHeartbeats 4000000 in
theorem law_c32 (C : Lx G p s m meth c b L xs) (hL : L ≤ 4096) (hl : lv_has ls 4 [(3, .int (nj (8 * i))), (2, .ref (s.heap.size + 51)), (1, .ref s.heap.size), (0, .ref b)]) (hi : 8 * i + 8 ≤ L) (I : LJ G s pm rm H) (R : Rel nc w pm rm) (hb : w + 537600 < 2147483647) (hc : cells + 158 ≤ 600000) (hz : slots + 1300 ≤ 7302250) (kk : ∀ (nc1 w1 : Nat) (pm1 rm1 : Mem) (H1 : Heap), LJ G s pm1 rm1 H1 → Rel nc1 w1 pm1 rm1 → w1 ≤ w + 537600 → WL p l e s m below meth c b H1 (cells + 158) (slots + 1300) Q ls 2213 []) : WL p l e s m below meth c b H cells slots Q ls 1566 [] := by
  obtain ⟨v, p1, r1, nc1, w1, e1, e2, R1, hw1, hc1, hs1⟩ := s_counted R hb (xs (8 * i + 1)) (xs (8 * i + 2)) (xs (8 * i + 3)) (xs (8 * i + 4)) (xs (8 * i + 5)) (fun v r' e => (R_counted_run I.2.1.1 e).2.1.1.trans I.2.1.1.1.1.symm)
  have q1 := P_counted_run I.2.2.1 e1
  have q2 := R_counted_run I.2.1.1 e2
  refine lv_aload_n (x := s.heap.size) C.1.1 C.1.2.1 (by decide +kernel : decode code 1566 = .ok (.aload_n 1, 1)) rfl (lv_at hl 2 rfl) ?_
  refine law_arg (pc := 1567) 1 C hL I.2.2.2.2 hl hi (by decide) (by decide +kernel) ?_
  refine law_arg (pc := 1572) 2 C hL I.2.2.2.2 hl hi (by decide) (by decide +kernel) ?_
  refine law_arg (pc := 1577) 3 C hL I.2.2.2.2 hl hi (by decide) (by decide +kernel) ?_
  refine law_arg (pc := 1582) 4 C hL I.2.2.2.2 hl hi (by decide) (by decide +kernel) ?_
  refine law_arg (pc := 1587) 5 C hL I.2.2.2.2 hl hi (by decide) (by decide +kernel) ?_
  refine law_P (pc := 1592) (idx := 149) (As := [.int (xs (8 * i + 1)), .int (xs (8 * i + 2)), .int (xs (8 * i + 3)), .int (xs (8 * i + 4)), .int (xs (8 * i + 5))]) (w := some (.int v)) (vs := [.int v]) C hl.1 I q1 (by decide +kernel) lc_L_149 mo_P_counted ⟨Nat.le_of_ble_eq_true rfl, Nat.le_of_ble_eq_true rfl⟩ (Nat.le_of_ble_eq_true rfl) (by show _ ≤ 600000; omega) (by show _ ≤ 7302250; omega) (fun _ => rfl) (fun _ => rfl) fun H1 I1 => ?_
  refine lv_aload_n (x := s.heap.size + 51) C.1.1 C.1.2.1 (by decide +kernel : decode code 1595 = .ok (.aload_n 2, 1)) rfl (lv_at hl 1 rfl) ?_
  refine law_arg (pc := 1596) 1 C hL I1.2.2.2.2 hl hi (by decide) (by decide +kernel) ?_
  refine law_arg (pc := 1601) 2 C hL I1.2.2.2.2 hl hi (by decide) (by decide +kernel) ?_
  refine law_arg (pc := 1606) 3 C hL I1.2.2.2.2 hl hi (by decide) (by decide +kernel) ?_
  refine law_arg (pc := 1611) 4 C hL I1.2.2.2.2 hl hi (by decide) (by decide +kernel) ?_
  refine law_arg (pc := 1616) 5 C hL I1.2.2.2.2 hl hi (by decide) (by decide +kernel) ?_
  refine law_R (pc := 1621) (idx := 152) (As := [.int (xs (8 * i + 1)), .int (xs (8 * i + 2)), .int (xs (8 * i + 3)), .int (xs (8 * i + 4)), .int (xs (8 * i + 5))]) (rest := [.int v]) (w := some (.int v)) (vs := [.int v, .int v]) C hl.1 I1 q2 (by decide +kernel) lc_L_152 mo_R_counted ⟨Nat.le_of_ble_eq_true rfl, Nat.le_of_ble_eq_true rfl⟩ (Nat.le_of_ble_eq_true rfl) (Nat.le_of_ble_eq_true rfl) (by show _ ≤ 600000; omega) (by show _ ≤ 7302250; omega) (fun _ => rfl) (fun _ => rfl) fun H2 I2 => ?_
  refine lv_icmp_eq (tgt := 2213) C.1.1 C.1.2.1 (by decide +kernel : decode code 1624 = .ok (.if_icmp .eq 589, 3)) (by decide) (fun _ => ?_) (fun z => absurd rfl z)
  exact W.widen (by omega) (by omega) (kk _ _ _ _ _ I2 R1 hw1)
set_option maxRecDepth 100000 in
set_option maxHeartbeats 4000000 in
theorem law_c33 (C : Lx G p s m meth c b L xs) (hL : L ≤ 4096) (hl : lv_has ls 4 [(3, .int (nj (8 * i))), (2, .ref (s.heap.size + 51)), (1, .ref s.heap.size), (0, .ref b)]) (hi : 8 * i + 8 ≤ L) (I : LJ G s pm rm H) (R : Rel nc w pm rm) (hb : w + 537600 < 2147483647) (hc : cells + 158 ≤ 600000) (hz : slots + 1300 ≤ 7302250) (kk : ∀ (nc1 w1 : Nat) (pm1 rm1 : Mem) (H1 : Heap), LJ G s pm1 rm1 H1 → Rel nc1 w1 pm1 rm1 → w1 ≤ w + 537600 → WL p l e s m below meth c b H1 (cells + 158) (slots + 1300) Q ls 2213 []) : WL p l e s m below meth c b H cells slots Q ls 1629 [] := by
  obtain ⟨v, p1, r1, nc1, w1, e1, e2, R1, hw1, hc1, hs1⟩ := s_worth R hb (xs (8 * i + 1)) (xs (8 * i + 2)) (xs (8 * i + 3)) (xs (8 * i + 4)) (fun v r' e => (R_worth_run I.2.1.1 e).2.1.1.trans I.2.1.1.1.1.symm)
  have q1 := P_worth_run I.2.2.1 e1
  have q2 := R_worth_run I.2.1.1 e2
  refine lv_aload_n (x := s.heap.size) C.1.1 C.1.2.1 (by decide +kernel : decode code 1629 = .ok (.aload_n 1, 1)) rfl (lv_at hl 2 rfl) ?_
  refine law_arg (pc := 1630) 1 C hL I.2.2.2.2 hl hi (by decide) (by decide +kernel) ?_
  refine law_arg (pc := 1635) 2 C hL I.2.2.2.2 hl hi (by decide) (by decide +kernel) ?_
  refine law_arg (pc := 1640) 3 C hL I.2.2.2.2 hl hi (by decide) (by decide +kernel) ?_
  refine law_arg (pc := 1645) 4 C hL I.2.2.2.2 hl hi (by decide) (by decide +kernel) ?_
  refine law_P (pc := 1650) (idx := 153) (As := [.int (xs (8 * i + 1)), .int (xs (8 * i + 2)), .int (xs (8 * i + 3)), .int (xs (8 * i + 4))]) (w := some (.int v)) (vs := [.int v]) C hl.1 I q1 (by decide +kernel) lc_L_153 mo_P_worth ⟨Nat.le_of_ble_eq_true rfl, Nat.le_of_ble_eq_true rfl⟩ (Nat.le_of_ble_eq_true rfl) (by show _ ≤ 600000; omega) (by show _ ≤ 7302250; omega) (fun _ => rfl) (fun _ => rfl) fun H1 I1 => ?_
  refine lv_aload_n (x := s.heap.size + 51) C.1.1 C.1.2.1 (by decide +kernel : decode code 1653 = .ok (.aload_n 2, 1)) rfl (lv_at hl 1 rfl) ?_
  refine law_arg (pc := 1654) 1 C hL I1.2.2.2.2 hl hi (by decide) (by decide +kernel) ?_
  refine law_arg (pc := 1659) 2 C hL I1.2.2.2.2 hl hi (by decide) (by decide +kernel) ?_
  refine law_arg (pc := 1664) 3 C hL I1.2.2.2.2 hl hi (by decide) (by decide +kernel) ?_
  refine law_arg (pc := 1669) 4 C hL I1.2.2.2.2 hl hi (by decide) (by decide +kernel) ?_
  refine law_R (pc := 1674) (idx := 156) (As := [.int (xs (8 * i + 1)), .int (xs (8 * i + 2)), .int (xs (8 * i + 3)), .int (xs (8 * i + 4))]) (rest := [.int v]) (w := some (.int v)) (vs := [.int v, .int v]) C hl.1 I1 q2 (by decide +kernel) lc_L_156 mo_R_worth ⟨Nat.le_of_ble_eq_true rfl, Nat.le_of_ble_eq_true rfl⟩ (Nat.le_of_ble_eq_true rfl) (Nat.le_of_ble_eq_true rfl) (by show _ ≤ 600000; omega) (by show _ ≤ 7302250; omega) (fun _ => rfl) (fun _ => rfl) fun H2 I2 => ?_
  refine lv_icmp_eq (tgt := 2213) C.1.1 C.1.2.1 (by decide +kernel : decode code 1677 = .ok (.if_icmp .eq 536, 3)) (by decide) (fun _ => ?_) (fun z => absurd rfl z)
  exact W.widen (by omega) (by omega) (kk _ _ _ _ _ I2 R1 hw1)
set_option maxRecDepth 100000 in
set_option maxHeartbeats 4000000 in
theorem law_c34 (C : Lx G p s m meth c b L xs) (hL : L ≤ 4096) (hl : lv_has ls 4 [(3, .int (nj (8 * i))), (2, .ref (s.heap.size + 51)), (1, .ref s.heap.size), (0, .ref b)]) (hi : 8 * i + 8 ≤ L) (I : LJ G s pm rm H) (R : Rel nc w pm rm) (hb : w + 537600 < 2147483647) (hc : cells + 158 ≤ 600000) (hz : slots + 1300 ≤ 7302250) (kk : ∀ (nc1 w1 : Nat) (pm1 rm1 : Mem) (H1 : Heap), LJ G s pm1 rm1 H1 → Rel nc1 w1 pm1 rm1 → w1 ≤ w + 537600 → WL p l e s m below meth c b H1 (cells + 158) (slots + 1300) Q ls 2213 []) : WL p l e s m below meth c b H cells slots Q ls 1682 [] := by
  obtain ⟨v, p1, r1, nc1, w1, e1, e2, R1, hw1, hc1, hs1⟩ := s_pay R hb (xs (8 * i + 1)) (xs (8 * i + 2)) (xs (8 * i + 3)) (fun v r' e => (R_pay_run I.2.1.1 e).2.1.1.trans I.2.1.1.1.1.symm)
  have q1 := P_pay_run I.2.2.1 e1
  have q2 := R_pay_run I.2.1.1 e2
  refine lv_aload_n (x := s.heap.size) C.1.1 C.1.2.1 (by decide +kernel : decode code 1682 = .ok (.aload_n 1, 1)) rfl (lv_at hl 2 rfl) ?_
  refine law_arg (pc := 1683) 1 C hL I.2.2.2.2 hl hi (by decide) (by decide +kernel) ?_
  refine law_arg (pc := 1688) 2 C hL I.2.2.2.2 hl hi (by decide) (by decide +kernel) ?_
  refine law_arg (pc := 1693) 3 C hL I.2.2.2.2 hl hi (by decide) (by decide +kernel) ?_
  refine law_P (pc := 1698) (idx := 157) (As := [.int (xs (8 * i + 1)), .int (xs (8 * i + 2)), .int (xs (8 * i + 3))]) (w := some (.int v)) (vs := [.int v]) C hl.1 I q1 (by decide +kernel) lc_L_157 mo_P_pay ⟨Nat.le_of_ble_eq_true rfl, Nat.le_of_ble_eq_true rfl⟩ (Nat.le_of_ble_eq_true rfl) (by show _ ≤ 600000; omega) (by show _ ≤ 7302250; omega) (fun _ => rfl) (fun _ => rfl) fun H1 I1 => ?_
  refine lv_aload_n (x := s.heap.size + 51) C.1.1 C.1.2.1 (by decide +kernel : decode code 1701 = .ok (.aload_n 2, 1)) rfl (lv_at hl 1 rfl) ?_
  refine law_arg (pc := 1702) 1 C hL I1.2.2.2.2 hl hi (by decide) (by decide +kernel) ?_
  refine law_arg (pc := 1707) 2 C hL I1.2.2.2.2 hl hi (by decide) (by decide +kernel) ?_
  refine law_arg (pc := 1712) 3 C hL I1.2.2.2.2 hl hi (by decide) (by decide +kernel) ?_
  refine law_R (pc := 1717) (idx := 160) (As := [.int (xs (8 * i + 1)), .int (xs (8 * i + 2)), .int (xs (8 * i + 3))]) (rest := [.int v]) (w := some (.int v)) (vs := [.int v, .int v]) C hl.1 I1 q2 (by decide +kernel) lc_L_160 mo_R_pay ⟨Nat.le_of_ble_eq_true rfl, Nat.le_of_ble_eq_true rfl⟩ (Nat.le_of_ble_eq_true rfl) (Nat.le_of_ble_eq_true rfl) (by show _ ≤ 600000; omega) (by show _ ≤ 7302250; omega) (fun _ => rfl) (fun _ => rfl) fun H2 I2 => ?_
  refine lv_icmp_eq (tgt := 2213) C.1.1 C.1.2.1 (by decide +kernel : decode code 1720 = .ok (.if_icmp .eq 493, 3)) (by decide) (fun _ => ?_) (fun z => absurd rfl z)
  exact W.widen (by omega) (by omega) (kk _ _ _ _ _ I2 R1 hw1)
set_option maxRecDepth 100000 in
set_option maxHeartbeats 4000000 in
theorem law_c35 (C : Lx G p s m meth c b L xs) (hL : L ≤ 4096) (hl : lv_has ls 4 [(3, .int (nj (8 * i))), (2, .ref (s.heap.size + 51)), (1, .ref s.heap.size), (0, .ref b)]) (hi : 8 * i + 8 ≤ L) (I : LJ G s pm rm H) (R : Rel nc w pm rm) (hb : w + 537600 < 2147483647) (hc : cells + 158 ≤ 600000) (hz : slots + 1300 ≤ 7302250) (kk : ∀ (nc1 w1 : Nat) (pm1 rm1 : Mem) (H1 : Heap), LJ G s pm1 rm1 H1 → Rel nc1 w1 pm1 rm1 → w1 ≤ w + 537600 → WL p l e s m below meth c b H1 (cells + 158) (slots + 1300) Q ls 2213 []) : WL p l e s m below meth c b H cells slots Q ls 1725 [] := by
  obtain ⟨v, p1, r1, nc1, w1, e1, e2, R1, hw1, hc1, hs1⟩ := s_halves R hb (xs (8 * i + 1)) (xs (8 * i + 2)) (xs (8 * i + 3)) (xs (8 * i + 4)) (fun v r' e => (R_halves_run I.2.1.1 e).2.1.1.trans I.2.1.1.1.1.symm)
  have q1 := P_halves_run I.2.2.1 e1
  have q2 := R_halves_run I.2.1.1 e2
  refine lv_aload_n (x := s.heap.size) C.1.1 C.1.2.1 (by decide +kernel : decode code 1725 = .ok (.aload_n 1, 1)) rfl (lv_at hl 2 rfl) ?_
  refine law_arg (pc := 1726) 1 C hL I.2.2.2.2 hl hi (by decide) (by decide +kernel) ?_
  refine law_arg (pc := 1731) 2 C hL I.2.2.2.2 hl hi (by decide) (by decide +kernel) ?_
  refine law_arg (pc := 1736) 3 C hL I.2.2.2.2 hl hi (by decide) (by decide +kernel) ?_
  refine law_arg (pc := 1741) 4 C hL I.2.2.2.2 hl hi (by decide) (by decide +kernel) ?_
  refine law_P (pc := 1746) (idx := 161) (As := [.int (xs (8 * i + 1)), .int (xs (8 * i + 2)), .int (xs (8 * i + 3)), .int (xs (8 * i + 4))]) (w := some (.int v)) (vs := [.int v]) C hl.1 I q1 (by decide +kernel) lc_L_161 mo_P_halves ⟨Nat.le_of_ble_eq_true rfl, Nat.le_of_ble_eq_true rfl⟩ (Nat.le_of_ble_eq_true rfl) (by show _ ≤ 600000; omega) (by show _ ≤ 7302250; omega) (fun _ => rfl) (fun _ => rfl) fun H1 I1 => ?_
  refine lv_aload_n (x := s.heap.size + 51) C.1.1 C.1.2.1 (by decide +kernel : decode code 1749 = .ok (.aload_n 2, 1)) rfl (lv_at hl 1 rfl) ?_
  refine law_arg (pc := 1750) 1 C hL I1.2.2.2.2 hl hi (by decide) (by decide +kernel) ?_
  refine law_arg (pc := 1755) 2 C hL I1.2.2.2.2 hl hi (by decide) (by decide +kernel) ?_
  refine law_arg (pc := 1760) 3 C hL I1.2.2.2.2 hl hi (by decide) (by decide +kernel) ?_
  refine law_arg (pc := 1765) 4 C hL I1.2.2.2.2 hl hi (by decide) (by decide +kernel) ?_
  refine law_R (pc := 1770) (idx := 164) (As := [.int (xs (8 * i + 1)), .int (xs (8 * i + 2)), .int (xs (8 * i + 3)), .int (xs (8 * i + 4))]) (rest := [.int v]) (w := some (.int v)) (vs := [.int v, .int v]) C hl.1 I1 q2 (by decide +kernel) lc_L_164 mo_R_halves ⟨Nat.le_of_ble_eq_true rfl, Nat.le_of_ble_eq_true rfl⟩ (Nat.le_of_ble_eq_true rfl) (Nat.le_of_ble_eq_true rfl) (by show _ ≤ 600000; omega) (by show _ ≤ 7302250; omega) (fun _ => rfl) (fun _ => rfl) fun H2 I2 => ?_
  refine lv_icmp_eq (tgt := 2213) C.1.1 C.1.2.1 (by decide +kernel : decode code 1773 = .ok (.if_icmp .eq 440, 3)) (by decide) (fun _ => ?_) (fun z => absurd rfl z)
  exact W.widen (by omega) (by omega) (kk _ _ _ _ _ I2 R1 hw1)
end Cs
