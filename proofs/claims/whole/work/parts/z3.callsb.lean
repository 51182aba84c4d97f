/-! Layer D: the law's calls (written by gen/law.py) -/
section Cs
variable {p : Program} {l : Launch} {e : Env} {s : State} {m : MethodId} {below : List Frame} {meth : Method} {c : Code} {b L : Nat} {xs : Nat → Int32} {G : GG} {H : Heap} {cells slots nc w i : Nat} {ls : Array Slot} {Q : State → Prop} {pm rm : Mem}
set_option maxRecDepth 100000 in
set_option maxHeartbeats 4000000 in
theorem law_c12 (C : Lx G p s m meth c b L xs) (hL : L ≤ 4096) (hl : lv_has ls 4 [(3, .int (nj (8 * i))), (2, .ref (s.heap.size + 51)), (1, .ref s.heap.size), (0, .ref b)]) (hi : 8 * i + 8 ≤ L) (I : LJ G s pm rm H) (R : Rel nc w pm rm) (hb : w + 537600 < 2147483647) (hc : cells + 158 ≤ 600000) (hz : slots + 1300 ≤ 7302250) (kk : ∀ (nc1 w1 : Nat) (pm1 rm1 : Mem) (H1 : Heap), LJ G s pm1 rm1 H1 → Rel nc1 w1 pm1 rm1 → w1 ≤ w + 537600 → WL p l e s m below meth c b H1 (cells + 158) (slots + 1300) Q ls 2213 []) : WL p l e s m below meth c b H cells slots Q ls 604 [] := by
  obtain ⟨v, p1, r1, nc1, w1, e1, e2, R1, hw1, hc1, hs1⟩ := s_row R hb (xs (8 * i + 1)) (xs (8 * i + 2)) (xs (8 * i + 3)) (fun v r' e => (R_row_run I.2.1.1 e).2.1.1.trans I.2.1.1.1.1.symm)
  have q1 := P_row_run I.2.2.1 e1
  have q2 := R_row_run I.2.1.1 e2
  refine lv_aload_n (x := s.heap.size) C.1.1 C.1.2.1 (by decide +kernel : decode code 604 = .ok (.aload_n 1, 1)) rfl (lv_at hl 2 rfl) ?_
  refine law_arg (pc := 605) 1 C hL I.2.2.2.2 hl hi (by decide) (by decide +kernel) ?_
  refine law_arg (pc := 610) 2 C hL I.2.2.2.2 hl hi (by decide) (by decide +kernel) ?_
  refine law_arg (pc := 615) 3 C hL I.2.2.2.2 hl hi (by decide) (by decide +kernel) ?_
  refine law_P (pc := 620) (idx := 68) (As := [.int (xs (8 * i + 1)), .int (xs (8 * i + 2)), .int (xs (8 * i + 3))]) (w := some (.int v)) (vs := [.int v]) C hl.1 I q1 (by decide +kernel) lc_L_68 mo_P_row ⟨Nat.le_of_ble_eq_true rfl, Nat.le_of_ble_eq_true rfl⟩ (Nat.le_of_ble_eq_true rfl) (by show _ ≤ 600000; omega) (by show _ ≤ 7302250; omega) (fun _ => rfl) (fun _ => rfl) fun H1 I1 => ?_
  refine lv_aload_n (x := s.heap.size + 51) C.1.1 C.1.2.1 (by decide +kernel : decode code 623 = .ok (.aload_n 2, 1)) rfl (lv_at hl 1 rfl) ?_
  refine law_arg (pc := 624) 1 C hL I1.2.2.2.2 hl hi (by decide) (by decide +kernel) ?_
  refine law_arg (pc := 629) 2 C hL I1.2.2.2.2 hl hi (by decide) (by decide +kernel) ?_
  refine law_arg (pc := 634) 3 C hL I1.2.2.2.2 hl hi (by decide) (by decide +kernel) ?_
  refine law_R (pc := 639) (idx := 71) (As := [.int (xs (8 * i + 1)), .int (xs (8 * i + 2)), .int (xs (8 * i + 3))]) (rest := [.int v]) (w := some (.int v)) (vs := [.int v, .int v]) C hl.1 I1 q2 (by decide +kernel) lc_L_71 mo_R_row ⟨Nat.le_of_ble_eq_true rfl, Nat.le_of_ble_eq_true rfl⟩ (Nat.le_of_ble_eq_true rfl) (Nat.le_of_ble_eq_true rfl) (by show _ ≤ 600000; omega) (by show _ ≤ 7302250; omega) (fun _ => rfl) (fun _ => rfl) fun H2 I2 => ?_
  refine lv_icmp_eq (tgt := 2213) C.1.1 C.1.2.1 (by decide +kernel : decode code 642 = .ok (.if_icmp .eq 1571, 3)) (by decide) (fun _ => ?_) (fun z => absurd rfl z)
  exact W.widen (by omega) (by omega) (kk _ _ _ _ _ I2 R1 hw1)
set_option maxRecDepth 100000 in
set_option maxHeartbeats 4000000 in
theorem law_c13 (C : Lx G p s m meth c b L xs) (hL : L ≤ 4096) (hl : lv_has ls 4 [(3, .int (nj (8 * i))), (2, .ref (s.heap.size + 51)), (1, .ref s.heap.size), (0, .ref b)]) (hi : 8 * i + 8 ≤ L) (I : LJ G s pm rm H) (R : Rel nc w pm rm) (hb : w + 537600 < 2147483647) (hc : cells + 158 ≤ 600000) (hz : slots + 1300 ≤ 7302250) (kk : ∀ (nc1 w1 : Nat) (pm1 rm1 : Mem) (H1 : Heap), LJ G s pm1 rm1 H1 → Rel nc1 w1 pm1 rm1 → w1 ≤ w + 537600 → WL p l e s m below meth c b H1 (cells + 158) (slots + 1300) Q ls 2213 []) : WL p l e s m below meth c b H cells slots Q ls 647 [] := by
  obtain ⟨v, p1, r1, nc1, w1, e1, e2, R1, hw1, hc1, hs1⟩ := s_cell R hb (xs (8 * i + 1)) (xs (8 * i + 2)) (fun v r' e => (R_cell_run I.2.1.1 e).2.1.1.trans I.2.1.1.1.1.symm)
  have q1 := P_cell_run I.2.2.1 e1
  have q2 := R_cell_run I.2.1.1 e2
  refine lv_aload_n (x := s.heap.size) C.1.1 C.1.2.1 (by decide +kernel : decode code 647 = .ok (.aload_n 1, 1)) rfl (lv_at hl 2 rfl) ?_
  refine law_arg (pc := 648) 1 C hL I.2.2.2.2 hl hi (by decide) (by decide +kernel) ?_
  refine law_arg (pc := 653) 2 C hL I.2.2.2.2 hl hi (by decide) (by decide +kernel) ?_
  refine law_P (pc := 658) (idx := 72) (As := [.int (xs (8 * i + 1)), .int (xs (8 * i + 2))]) (w := some (.int v)) (vs := [.int v]) C hl.1 I q1 (by decide +kernel) lc_L_72 mo_P_cell ⟨Nat.le_of_ble_eq_true rfl, Nat.le_of_ble_eq_true rfl⟩ (Nat.le_of_ble_eq_true rfl) (by show _ ≤ 600000; omega) (by show _ ≤ 7302250; omega) (fun _ => rfl) (fun _ => rfl) fun H1 I1 => ?_
  refine lv_aload_n (x := s.heap.size + 51) C.1.1 C.1.2.1 (by decide +kernel : decode code 661 = .ok (.aload_n 2, 1)) rfl (lv_at hl 1 rfl) ?_
  refine law_arg (pc := 662) 1 C hL I1.2.2.2.2 hl hi (by decide) (by decide +kernel) ?_
  refine law_arg (pc := 667) 2 C hL I1.2.2.2.2 hl hi (by decide) (by decide +kernel) ?_
  refine law_R (pc := 672) (idx := 75) (As := [.int (xs (8 * i + 1)), .int (xs (8 * i + 2))]) (rest := [.int v]) (w := some (.int v)) (vs := [.int v, .int v]) C hl.1 I1 q2 (by decide +kernel) lc_L_75 mo_R_cell ⟨Nat.le_of_ble_eq_true rfl, Nat.le_of_ble_eq_true rfl⟩ (Nat.le_of_ble_eq_true rfl) (Nat.le_of_ble_eq_true rfl) (by show _ ≤ 600000; omega) (by show _ ≤ 7302250; omega) (fun _ => rfl) (fun _ => rfl) fun H2 I2 => ?_
  refine lv_icmp_eq (tgt := 2213) C.1.1 C.1.2.1 (by decide +kernel : decode code 675 = .ok (.if_icmp .eq 1538, 3)) (by decide) (fun _ => ?_) (fun z => absurd rfl z)
  exact W.widen (by omega) (by omega) (kk _ _ _ _ _ I2 R1 hw1)
set_option maxRecDepth 100000 in
set_option maxHeartbeats 4000000 in
theorem law_c14 (C : Lx G p s m meth c b L xs) (hL : L ≤ 4096) (hl : lv_has ls 4 [(3, .int (nj (8 * i))), (2, .ref (s.heap.size + 51)), (1, .ref s.heap.size), (0, .ref b)]) (hi : 8 * i + 8 ≤ L) (I : LJ G s pm rm H) (R : Rel nc w pm rm) (hb : w + 537600 < 2147483647) (hc : cells + 158 ≤ 600000) (hz : slots + 1300 ≤ 7302250) (kk : ∀ (nc1 w1 : Nat) (pm1 rm1 : Mem) (H1 : Heap), LJ G s pm1 rm1 H1 → Rel nc1 w1 pm1 rm1 → w1 ≤ w + 537600 → WL p l e s m below meth c b H1 (cells + 158) (slots + 1300) Q ls 2213 []) : WL p l e s m below meth c b H cells slots Q ls 680 [] := by
  obtain ⟨v, p1, r1, nc1, w1, e1, e2, R1, hw1, hc1, hs1⟩ := s_log R hb (xs (8 * i + 1)) (xs (8 * i + 2)) (xs (8 * i + 3)) (fun v r' e => (R_log_run I.2.1.1 e).2.1.1.trans I.2.1.1.1.1.symm)
  have q1 := P_log_run I.2.2.1 e1
  have q2 := R_log_run I.2.1.1 e2
  refine lv_aload_n (x := s.heap.size) C.1.1 C.1.2.1 (by decide +kernel : decode code 680 = .ok (.aload_n 1, 1)) rfl (lv_at hl 2 rfl) ?_
  refine law_arg (pc := 681) 1 C hL I.2.2.2.2 hl hi (by decide) (by decide +kernel) ?_
  refine law_arg (pc := 686) 2 C hL I.2.2.2.2 hl hi (by decide) (by decide +kernel) ?_
  refine law_arg (pc := 691) 3 C hL I.2.2.2.2 hl hi (by decide) (by decide +kernel) ?_
  refine law_P (pc := 696) (idx := 76) (As := [.int (xs (8 * i + 1)), .int (xs (8 * i + 2)), .int (xs (8 * i + 3))]) (w := some (.int v)) (vs := [.int v]) C hl.1 I q1 (by decide +kernel) lc_L_76 mo_P_log ⟨Nat.le_of_ble_eq_true rfl, Nat.le_of_ble_eq_true rfl⟩ (Nat.le_of_ble_eq_true rfl) (by show _ ≤ 600000; omega) (by show _ ≤ 7302250; omega) (fun _ => rfl) (fun _ => rfl) fun H1 I1 => ?_
  refine lv_aload_n (x := s.heap.size + 51) C.1.1 C.1.2.1 (by decide +kernel : decode code 699 = .ok (.aload_n 2, 1)) rfl (lv_at hl 1 rfl) ?_
  refine law_arg (pc := 700) 1 C hL I1.2.2.2.2 hl hi (by decide) (by decide +kernel) ?_
  refine law_arg (pc := 705) 2 C hL I1.2.2.2.2 hl hi (by decide) (by decide +kernel) ?_
  refine law_arg (pc := 710) 3 C hL I1.2.2.2.2 hl hi (by decide) (by decide +kernel) ?_
  refine law_R (pc := 715) (idx := 79) (As := [.int (xs (8 * i + 1)), .int (xs (8 * i + 2)), .int (xs (8 * i + 3))]) (rest := [.int v]) (w := some (.int v)) (vs := [.int v, .int v]) C hl.1 I1 q2 (by decide +kernel) lc_L_79 mo_R_log ⟨Nat.le_of_ble_eq_true rfl, Nat.le_of_ble_eq_true rfl⟩ (Nat.le_of_ble_eq_true rfl) (Nat.le_of_ble_eq_true rfl) (by show _ ≤ 600000; omega) (by show _ ≤ 7302250; omega) (fun _ => rfl) (fun _ => rfl) fun H2 I2 => ?_
  refine lv_icmp_eq (tgt := 2213) C.1.1 C.1.2.1 (by decide +kernel : decode code 718 = .ok (.if_icmp .eq 1495, 3)) (by decide) (fun _ => ?_) (fun z => absurd rfl z)
  exact W.widen (by omega) (by omega) (kk _ _ _ _ _ I2 R1 hw1)
set_option maxRecDepth 100000 in
set_option maxHeartbeats 4000000 in
theorem law_c15 (C : Lx G p s m meth c b L xs) (hL : L ≤ 4096) (hl : lv_has ls 4 [(3, .int (nj (8 * i))), (2, .ref (s.heap.size + 51)), (1, .ref s.heap.size), (0, .ref b)]) (hi : 8 * i + 8 ≤ L) (I : LJ G s pm rm H) (R : Rel nc w pm rm) (hb : w + 537600 < 2147483647) (hc : cells + 158 ≤ 600000) (hz : slots + 1300 ≤ 7302250) (kk : ∀ (nc1 w1 : Nat) (pm1 rm1 : Mem) (H1 : Heap), LJ G s pm1 rm1 H1 → Rel nc1 w1 pm1 rm1 → w1 ≤ w + 537600 → WL p l e s m below meth c b H1 (cells + 158) (slots + 1300) Q ls 2213 []) : WL p l e s m below meth c b H cells slots Q ls 723 [] := by
  obtain ⟨v, p1, r1, nc1, w1, e1, e2, R1, hw1, hc1, hs1⟩ := s_answer R hb (xs (8 * i + 1)) (xs (8 * i + 2)) (xs (8 * i + 3)) (fun v r' e => (R_answer_run I.2.1.1 e).2.1.1.trans I.2.1.1.1.1.symm)
  have q1 := P_answer_run I.2.2.1 e1
  have q2 := R_answer_run I.2.1.1 e2
  refine lv_aload_n (x := s.heap.size) C.1.1 C.1.2.1 (by decide +kernel : decode code 723 = .ok (.aload_n 1, 1)) rfl (lv_at hl 2 rfl) ?_
  refine law_arg (pc := 724) 1 C hL I.2.2.2.2 hl hi (by decide) (by decide +kernel) ?_
  refine law_arg (pc := 729) 2 C hL I.2.2.2.2 hl hi (by decide) (by decide +kernel) ?_
  refine law_arg (pc := 734) 3 C hL I.2.2.2.2 hl hi (by decide) (by decide +kernel) ?_
  refine law_P (pc := 739) (idx := 80) (As := [.int (xs (8 * i + 1)), .int (xs (8 * i + 2)), .int (xs (8 * i + 3))]) (w := some (.int v)) (vs := [.int v]) C hl.1 I q1 (by decide +kernel) lc_L_80 mo_P_answer ⟨Nat.le_of_ble_eq_true rfl, Nat.le_of_ble_eq_true rfl⟩ (Nat.le_of_ble_eq_true rfl) (by show _ ≤ 600000; omega) (by show _ ≤ 7302250; omega) (fun _ => rfl) (fun _ => rfl) fun H1 I1 => ?_
  refine lv_aload_n (x := s.heap.size + 51) C.1.1 C.1.2.1 (by decide +kernel : decode code 742 = .ok (.aload_n 2, 1)) rfl (lv_at hl 1 rfl) ?_
  refine law_arg (pc := 743) 1 C hL I1.2.2.2.2 hl hi (by decide) (by decide +kernel) ?_
  refine law_arg (pc := 748) 2 C hL I1.2.2.2.2 hl hi (by decide) (by decide +kernel) ?_
  refine law_arg (pc := 753) 3 C hL I1.2.2.2.2 hl hi (by decide) (by decide +kernel) ?_
  refine law_R (pc := 758) (idx := 83) (As := [.int (xs (8 * i + 1)), .int (xs (8 * i + 2)), .int (xs (8 * i + 3))]) (rest := [.int v]) (w := some (.int v)) (vs := [.int v, .int v]) C hl.1 I1 q2 (by decide +kernel) lc_L_83 mo_R_answer ⟨Nat.le_of_ble_eq_true rfl, Nat.le_of_ble_eq_true rfl⟩ (Nat.le_of_ble_eq_true rfl) (Nat.le_of_ble_eq_true rfl) (by show _ ≤ 600000; omega) (by show _ ≤ 7302250; omega) (fun _ => rfl) (fun _ => rfl) fun H2 I2 => ?_
  refine lv_icmp_eq (tgt := 2213) C.1.1 C.1.2.1 (by decide +kernel : decode code 761 = .ok (.if_icmp .eq 1452, 3)) (by decide) (fun _ => ?_) (fun z => absurd rfl z)
  exact W.widen (by omega) (by omega) (kk _ _ _ _ _ I2 R1 hw1)
set_option maxRecDepth 100000 in
set_option maxHeartbeats 4000000 in
theorem law_c16 (C : Lx G p s m meth c b L xs) (hL : L ≤ 4096) (hl : lv_has ls 4 [(3, .int (nj (8 * i))), (2, .ref (s.heap.size + 51)), (1, .ref s.heap.size), (0, .ref b)]) (hi : 8 * i + 8 ≤ L) (I : LJ G s pm rm H) (R : Rel nc w pm rm) (hb : w + 537600 < 2147483647) (hc : cells + 158 ≤ 600000) (hz : slots + 1300 ≤ 7302250) (kk : ∀ (nc1 w1 : Nat) (pm1 rm1 : Mem) (H1 : Heap), LJ G s pm1 rm1 H1 → Rel nc1 w1 pm1 rm1 → w1 ≤ w + 537600 → WL p l e s m below meth c b H1 (cells + 158) (slots + 1300) Q ls 2213 []) : WL p l e s m below meth c b H cells slots Q ls 766 [] := by
  obtain ⟨v, p1, r1, nc1, w1, e1, e2, R1, hw1, hc1, hs1⟩ := s_paid R hb (xs (8 * i + 1)) (xs (8 * i + 2)) (xs (8 * i + 3)) (fun v r' e => (R_paid_run I.2.1.1 e).2.1.1.trans I.2.1.1.1.1.symm)
  have q1 := P_paid_run I.2.2.1 e1
  have q2 := R_paid_run I.2.1.1 e2
  refine lv_aload_n (x := s.heap.size) C.1.1 C.1.2.1 (by decide +kernel : decode code 766 = .ok (.aload_n 1, 1)) rfl (lv_at hl 2 rfl) ?_
  refine law_arg (pc := 767) 1 C hL I.2.2.2.2 hl hi (by decide) (by decide +kernel) ?_
  refine law_arg (pc := 772) 2 C hL I.2.2.2.2 hl hi (by decide) (by decide +kernel) ?_
  refine law_arg (pc := 777) 3 C hL I.2.2.2.2 hl hi (by decide) (by decide +kernel) ?_
  refine law_P (pc := 782) (idx := 84) (As := [.int (xs (8 * i + 1)), .int (xs (8 * i + 2)), .int (xs (8 * i + 3))]) (w := some (.int v)) (vs := [.int v]) C hl.1 I q1 (by decide +kernel) lc_L_84 mo_P_paid ⟨Nat.le_of_ble_eq_true rfl, Nat.le_of_ble_eq_true rfl⟩ (Nat.le_of_ble_eq_true rfl) (by show _ ≤ 600000; omega) (by show _ ≤ 7302250; omega) (fun _ => rfl) (fun _ => rfl) fun H1 I1 => ?_
  refine lv_aload_n (x := s.heap.size + 51) C.1.1 C.1.2.1 (by decide +kernel : decode code 785 = .ok (.aload_n 2, 1)) rfl (lv_at hl 1 rfl) ?_
  refine law_arg (pc := 786) 1 C hL I1.2.2.2.2 hl hi (by decide) (by decide +kernel) ?_
  refine law_arg (pc := 791) 2 C hL I1.2.2.2.2 hl hi (by decide) (by decide +kernel) ?_
  refine law_arg (pc := 796) 3 C hL I1.2.2.2.2 hl hi (by decide) (by decide +kernel) ?_
  refine law_R (pc := 801) (idx := 87) (As := [.int (xs (8 * i + 1)), .int (xs (8 * i + 2)), .int (xs (8 * i + 3))]) (rest := [.int v]) (w := some (.int v)) (vs := [.int v, .int v]) C hl.1 I1 q2 (by decide +kernel) lc_L_87 mo_R_paid ⟨Nat.le_of_ble_eq_true rfl, Nat.le_of_ble_eq_true rfl⟩ (Nat.le_of_ble_eq_true rfl) (Nat.le_of_ble_eq_true rfl) (by show _ ≤ 600000; omega) (by show _ ≤ 7302250; omega) (fun _ => rfl) (fun _ => rfl) fun H2 I2 => ?_
  refine lv_icmp_eq (tgt := 2213) C.1.1 C.1.2.1 (by decide +kernel : decode code 804 = .ok (.if_icmp .eq 1409, 3)) (by decide) (fun _ => ?_) (fun z => absurd rfl z)
  exact W.widen (by omega) (by omega) (kk _ _ _ _ _ I2 R1 hw1)
set_option maxRecDepth 100000 in
set_option maxHeartbeats 4000000 in
theorem law_c17 (C : Lx G p s m meth c b L xs) (hL : L ≤ 4096) (hl : lv_has ls 4 [(3, .int (nj (8 * i))), (2, .ref (s.heap.size + 51)), (1, .ref s.heap.size), (0, .ref b)]) (hi : 8 * i + 8 ≤ L) (I : LJ G s pm rm H) (R : Rel nc w pm rm) (hb : w + 537600 < 2147483647) (hc : cells + 158 ≤ 600000) (hz : slots + 1300 ≤ 7302250) (kk : ∀ (nc1 w1 : Nat) (pm1 rm1 : Mem) (H1 : Heap), LJ G s pm1 rm1 H1 → Rel nc1 w1 pm1 rm1 → w1 ≤ w + 537600 → WL p l e s m below meth c b H1 (cells + 158) (slots + 1300) Q ls 2213 []) : WL p l e s m below meth c b H cells slots Q ls 809 [] := by
  obtain ⟨v, p1, r1, nc1, w1, e1, e2, R1, hw1, hc1, hs1⟩ := s_stay R hb (xs (8 * i + 1)) (xs (8 * i + 2)) (xs (8 * i + 3)) (fun v r' e => (R_stay_run I.2.1.1 e).2.1.1.trans I.2.1.1.1.1.symm)
  have q1 := P_stay_run I.2.2.1 e1
  have q2 := R_stay_run I.2.1.1 e2
  refine lv_aload_n (x := s.heap.size) C.1.1 C.1.2.1 (by decide +kernel : decode code 809 = .ok (.aload_n 1, 1)) rfl (lv_at hl 2 rfl) ?_
  refine law_arg (pc := 810) 1 C hL I.2.2.2.2 hl hi (by decide) (by decide +kernel) ?_
  refine law_arg (pc := 815) 2 C hL I.2.2.2.2 hl hi (by decide) (by decide +kernel) ?_
  refine law_arg (pc := 820) 3 C hL I.2.2.2.2 hl hi (by decide) (by decide +kernel) ?_
  refine law_P (pc := 825) (idx := 88) (As := [.int (xs (8 * i + 1)), .int (xs (8 * i + 2)), .int (xs (8 * i + 3))]) (w := some (.int v)) (vs := [.int v]) C hl.1 I q1 (by decide +kernel) lc_L_88 mo_P_stay ⟨Nat.le_of_ble_eq_true rfl, Nat.le_of_ble_eq_true rfl⟩ (Nat.le_of_ble_eq_true rfl) (by show _ ≤ 600000; omega) (by show _ ≤ 7302250; omega) (fun _ => rfl) (fun _ => rfl) fun H1 I1 => ?_
  refine lv_aload_n (x := s.heap.size + 51) C.1.1 C.1.2.1 (by decide +kernel : decode code 828 = .ok (.aload_n 2, 1)) rfl (lv_at hl 1 rfl) ?_
  refine law_arg (pc := 829) 1 C hL I1.2.2.2.2 hl hi (by decide) (by decide +kernel) ?_
  refine law_arg (pc := 834) 2 C hL I1.2.2.2.2 hl hi (by decide) (by decide +kernel) ?_
  refine law_arg (pc := 839) 3 C hL I1.2.2.2.2 hl hi (by decide) (by decide +kernel) ?_
  refine law_R (pc := 844) (idx := 91) (As := [.int (xs (8 * i + 1)), .int (xs (8 * i + 2)), .int (xs (8 * i + 3))]) (rest := [.int v]) (w := some (.int v)) (vs := [.int v, .int v]) C hl.1 I1 q2 (by decide +kernel) lc_L_91 mo_R_stay ⟨Nat.le_of_ble_eq_true rfl, Nat.le_of_ble_eq_true rfl⟩ (Nat.le_of_ble_eq_true rfl) (Nat.le_of_ble_eq_true rfl) (by show _ ≤ 600000; omega) (by show _ ≤ 7302250; omega) (fun _ => rfl) (fun _ => rfl) fun H2 I2 => ?_
  refine lv_icmp_eq (tgt := 2213) C.1.1 C.1.2.1 (by decide +kernel : decode code 847 = .ok (.if_icmp .eq 1366, 3)) (by decide) (fun _ => ?_) (fun z => absurd rfl z)
  exact W.widen (by omega) (by omega) (kk _ _ _ _ _ I2 R1 hw1)
set_option maxRecDepth 100000 in
set_option maxHeartbeats 4000000 in
theorem law_c18 (C : Lx G p s m meth c b L xs) (hL : L ≤ 4096) (hl : lv_has ls 4 [(3, .int (nj (8 * i))), (2, .ref (s.heap.size + 51)), (1, .ref s.heap.size), (0, .ref b)]) (hi : 8 * i + 8 ≤ L) (I : LJ G s pm rm H) (R : Rel nc w pm rm) (hb : w + 537600 < 2147483647) (hc : cells + 158 ≤ 600000) (hz : slots + 1300 ≤ 7302250) (kk : ∀ (nc1 w1 : Nat) (pm1 rm1 : Mem) (H1 : Heap), LJ G s pm1 rm1 H1 → Rel nc1 w1 pm1 rm1 → w1 ≤ w + 537600 → WL p l e s m below meth c b H1 (cells + 158) (slots + 1300) Q ls 2213 []) : WL p l e s m below meth c b H cells slots Q ls 852 [] := by
  obtain ⟨v, p1, r1, nc1, w1, e1, e2, R1, hw1, hc1, hs1⟩ := s_priced R hb (xs (8 * i + 1)) (xs (8 * i + 2)) (xs (8 * i + 3)) (xs (8 * i + 4)) (fun v r' e => (R_priced_run I.2.1.1 e).2.1.1.trans I.2.1.1.1.1.symm)
  have q1 := P_priced_run I.2.2.1 e1
  have q2 := R_priced_run I.2.1.1 e2
  refine lv_aload_n (x := s.heap.size) C.1.1 C.1.2.1 (by decide +kernel : decode code 852 = .ok (.aload_n 1, 1)) rfl (lv_at hl 2 rfl) ?_
  refine law_arg (pc := 853) 1 C hL I.2.2.2.2 hl hi (by decide) (by decide +kernel) ?_
  refine law_arg (pc := 858) 2 C hL I.2.2.2.2 hl hi (by decide) (by decide +kernel) ?_
  refine law_arg (pc := 863) 3 C hL I.2.2.2.2 hl hi (by decide) (by decide +kernel) ?_
  refine law_arg (pc := 868) 4 C hL I.2.2.2.2 hl hi (by decide) (by decide +kernel) ?_
  refine law_P (pc := 873) (idx := 92) (As := [.int (xs (8 * i + 1)), .int (xs (8 * i + 2)), .int (xs (8 * i + 3)), .int (xs (8 * i + 4))]) (w := some (.int v)) (vs := [.int v]) C hl.1 I q1 (by decide +kernel) lc_L_92 mo_P_priced ⟨Nat.le_of_ble_eq_true rfl, Nat.le_of_ble_eq_true rfl⟩ (Nat.le_of_ble_eq_true rfl) (by show _ ≤ 600000; omega) (by show _ ≤ 7302250; omega) (fun _ => rfl) (fun _ => rfl) fun H1 I1 => ?_
  refine lv_aload_n (x := s.heap.size + 51) C.1.1 C.1.2.1 (by decide +kernel : decode code 876 = .ok (.aload_n 2, 1)) rfl (lv_at hl 1 rfl) ?_
  refine law_arg (pc := 877) 1 C hL I1.2.2.2.2 hl hi (by decide) (by decide +kernel) ?_
  refine law_arg (pc := 882) 2 C hL I1.2.2.2.2 hl hi (by decide) (by decide +kernel) ?_
  refine law_arg (pc := 887) 3 C hL I1.2.2.2.2 hl hi (by decide) (by decide +kernel) ?_
  refine law_arg (pc := 892) 4 C hL I1.2.2.2.2 hl hi (by decide) (by decide +kernel) ?_
  refine law_R (pc := 897) (idx := 95) (As := [.int (xs (8 * i + 1)), .int (xs (8 * i + 2)), .int (xs (8 * i + 3)), .int (xs (8 * i + 4))]) (rest := [.int v]) (w := some (.int v)) (vs := [.int v, .int v]) C hl.1 I1 q2 (by decide +kernel) lc_L_95 mo_R_priced ⟨Nat.le_of_ble_eq_true rfl, Nat.le_of_ble_eq_true rfl⟩ (Nat.le_of_ble_eq_true rfl) (Nat.le_of_ble_eq_true rfl) (by show _ ≤ 600000; omega) (by show _ ≤ 7302250; omega) (fun _ => rfl) (fun _ => rfl) fun H2 I2 => ?_
  refine lv_icmp_eq (tgt := 2213) C.1.1 C.1.2.1 (by decide +kernel : decode code 900 = .ok (.if_icmp .eq 1313, 3)) (by decide) (fun _ => ?_) (fun z => absurd rfl z)
  exact W.widen (by omega) (by omega) (kk _ _ _ _ _ I2 R1 hw1)
set_option maxRecDepth 100000 in
set_option maxHeartbeats 4000000 in
theorem law_c19 (C : Lx G p s m meth c b L xs) (hL : L ≤ 4096) (hl : lv_has ls 4 [(3, .int (nj (8 * i))), (2, .ref (s.heap.size + 51)), (1, .ref s.heap.size), (0, .ref b)]) (hi : 8 * i + 8 ≤ L) (I : LJ G s pm rm H) (R : Rel nc w pm rm) (hb : w + 537600 < 2147483647) (hc : cells + 158 ≤ 600000) (hz : slots + 1300 ≤ 7302250) (kk : ∀ (nc1 w1 : Nat) (pm1 rm1 : Mem) (H1 : Heap), LJ G s pm1 rm1 H1 → Rel nc1 w1 pm1 rm1 → w1 ≤ w + 537600 → WL p l e s m below meth c b H1 (cells + 158) (slots + 1300) Q ls 2213 []) : WL p l e s m below meth c b H cells slots Q ls 905 [] := by
  obtain ⟨v, p1, r1, nc1, w1, e1, e2, R1, hw1, hc1, hs1⟩ := s_least R hb (xs (8 * i + 1)) (xs (8 * i + 2)) (xs (8 * i + 3)) (fun v r' e => (R_least_run I.2.1.1 e).2.1.1.trans I.2.1.1.1.1.symm)
  have q1 := P_least_run I.2.2.1 e1
  have q2 := R_least_run I.2.1.1 e2
  refine lv_aload_n (x := s.heap.size) C.1.1 C.1.2.1 (by decide +kernel : decode code 905 = .ok (.aload_n 1, 1)) rfl (lv_at hl 2 rfl) ?_
  refine law_arg (pc := 906) 1 C hL I.2.2.2.2 hl hi (by decide) (by decide +kernel) ?_
  refine law_arg (pc := 911) 2 C hL I.2.2.2.2 hl hi (by decide) (by decide +kernel) ?_
  refine law_arg (pc := 916) 3 C hL I.2.2.2.2 hl hi (by decide) (by decide +kernel) ?_
  refine law_P (pc := 921) (idx := 96) (As := [.int (xs (8 * i + 1)), .int (xs (8 * i + 2)), .int (xs (8 * i + 3))]) (w := some (.int v)) (vs := [.int v]) C hl.1 I q1 (by decide +kernel) lc_L_96 mo_P_least ⟨Nat.le_of_ble_eq_true rfl, Nat.le_of_ble_eq_true rfl⟩ (Nat.le_of_ble_eq_true rfl) (by show _ ≤ 600000; omega) (by show _ ≤ 7302250; omega) (fun _ => rfl) (fun _ => rfl) fun H1 I1 => ?_
  refine lv_aload_n (x := s.heap.size + 51) C.1.1 C.1.2.1 (by decide +kernel : decode code 924 = .ok (.aload_n 2, 1)) rfl (lv_at hl 1 rfl) ?_
  refine law_arg (pc := 925) 1 C hL I1.2.2.2.2 hl hi (by decide) (by decide +kernel) ?_
  refine law_arg (pc := 930) 2 C hL I1.2.2.2.2 hl hi (by decide) (by decide +kernel) ?_
  refine law_arg (pc := 935) 3 C hL I1.2.2.2.2 hl hi (by decide) (by decide +kernel) ?_
  refine law_R (pc := 940) (idx := 99) (As := [.int (xs (8 * i + 1)), .int (xs (8 * i + 2)), .int (xs (8 * i + 3))]) (rest := [.int v]) (w := some (.int v)) (vs := [.int v, .int v]) C hl.1 I1 q2 (by decide +kernel) lc_L_99 mo_R_least ⟨Nat.le_of_ble_eq_true rfl, Nat.le_of_ble_eq_true rfl⟩ (Nat.le_of_ble_eq_true rfl) (Nat.le_of_ble_eq_true rfl) (by show _ ≤ 600000; omega) (by show _ ≤ 7302250; omega) (fun _ => rfl) (fun _ => rfl) fun H2 I2 => ?_
  refine lv_icmp_eq (tgt := 2213) C.1.1 C.1.2.1 (by decide +kernel : decode code 943 = .ok (.if_icmp .eq 1270, 3)) (by decide) (fun _ => ?_) (fun z => absurd rfl z)
  exact W.widen (by omega) (by omega) (kk _ _ _ _ _ I2 R1 hw1)
set_option maxRecDepth 100000 in
set_option maxHeartbeats 4000000 in
theorem law_c20 (C : Lx G p s m meth c b L xs) (hL : L ≤ 4096) (hl : lv_has ls 4 [(3, .int (nj (8 * i))), (2, .ref (s.heap.size + 51)), (1, .ref s.heap.size), (0, .ref b)]) (hi : 8 * i + 8 ≤ L) (I : LJ G s pm rm H) (R : Rel nc w pm rm) (hb : w + 537600 < 2147483647) (hc : cells + 158 ≤ 600000) (hz : slots + 1300 ≤ 7302250) (kk : ∀ (nc1 w1 : Nat) (pm1 rm1 : Mem) (H1 : Heap), LJ G s pm1 rm1 H1 → Rel nc1 w1 pm1 rm1 → w1 ≤ w + 537600 → WL p l e s m below meth c b H1 (cells + 158) (slots + 1300) Q ls 2213 []) : WL p l e s m below meth c b H cells slots Q ls 948 [] := by
  obtain ⟨v, p1, r1, nc1, w1, e1, e2, R1, hw1, hc1, hs1⟩ := s_kind R hb (xs (8 * i + 1)) (fun v r' e => (R_kind_run I.2.1.1 e).2.1.1.trans I.2.1.1.1.1.symm)
  have q1 := P_kind_run I.2.2.1 e1
  have q2 := R_kind_run I.2.1.1 e2
  refine lv_aload_n (x := s.heap.size) C.1.1 C.1.2.1 (by decide +kernel : decode code 948 = .ok (.aload_n 1, 1)) rfl (lv_at hl 2 rfl) ?_
  refine law_arg (pc := 949) 1 C hL I.2.2.2.2 hl hi (by decide) (by decide +kernel) ?_
  refine law_P (pc := 954) (idx := 100) (As := [.int (xs (8 * i + 1))]) (w := some (.int v)) (vs := [.int v]) C hl.1 I q1 (by decide +kernel) lc_L_100 mo_P_kind ⟨Nat.le_of_ble_eq_true rfl, Nat.le_of_ble_eq_true rfl⟩ (Nat.le_of_ble_eq_true rfl) (by show _ ≤ 600000; omega) (by show _ ≤ 7302250; omega) (fun _ => rfl) (fun _ => rfl) fun H1 I1 => ?_
  refine lv_aload_n (x := s.heap.size + 51) C.1.1 C.1.2.1 (by decide +kernel : decode code 957 = .ok (.aload_n 2, 1)) rfl (lv_at hl 1 rfl) ?_
  refine law_arg (pc := 958) 1 C hL I1.2.2.2.2 hl hi (by decide) (by decide +kernel) ?_
  refine law_R (pc := 963) (idx := 103) (As := [.int (xs (8 * i + 1))]) (rest := [.int v]) (w := some (.int v)) (vs := [.int v, .int v]) C hl.1 I1 q2 (by decide +kernel) lc_L_103 mo_R_kind ⟨Nat.le_of_ble_eq_true rfl, Nat.le_of_ble_eq_true rfl⟩ (Nat.le_of_ble_eq_true rfl) (Nat.le_of_ble_eq_true rfl) (by show _ ≤ 600000; omega) (by show _ ≤ 7302250; omega) (fun _ => rfl) (fun _ => rfl) fun H2 I2 => ?_
  refine lv_icmp_eq (tgt := 2213) C.1.1 C.1.2.1 (by decide +kernel : decode code 966 = .ok (.if_icmp .eq 1247, 3)) (by decide) (fun _ => ?_) (fun z => absurd rfl z)
  exact W.widen (by omega) (by omega) (kk _ _ _ _ _ I2 R1 hw1)
set_option maxRecDepth 100000 in
set_option maxHeartbeats 4000000 in
theorem law_c21 (C : Lx G p s m meth c b L xs) (hL : L ≤ 4096) (hl : lv_has ls 4 [(3, .int (nj (8 * i))), (2, .ref (s.heap.size + 51)), (1, .ref s.heap.size), (0, .ref b)]) (hi : 8 * i + 8 ≤ L) (I : LJ G s pm rm H) (R : Rel nc w pm rm) (hb : w + 537600 < 2147483647) (hc : cells + 158 ≤ 600000) (hz : slots + 1300 ≤ 7302250) (kk : ∀ (nc1 w1 : Nat) (pm1 rm1 : Mem) (H1 : Heap), LJ G s pm1 rm1 H1 → Rel nc1 w1 pm1 rm1 → w1 ≤ w + 537600 → WL p l e s m below meth c b H1 (cells + 158) (slots + 1300) Q ls 2213 []) : WL p l e s m below meth c b H cells slots Q ls 971 [] := by
  obtain ⟨v, p1, r1, nc1, w1, e1, e2, R1, hw1, hc1, hs1⟩ := s_award R hb (xs (8 * i + 1)) (fun v r' e => (R_award_run I.2.1.1 e).2.1.1.trans I.2.1.1.1.1.symm)
  have q1 := P_award_run I.2.2.1 e1
  have q2 := R_award_run I.2.1.1 e2
  refine lv_aload_n (x := s.heap.size) C.1.1 C.1.2.1 (by decide +kernel : decode code 971 = .ok (.aload_n 1, 1)) rfl (lv_at hl 2 rfl) ?_
  refine law_arg (pc := 972) 1 C hL I.2.2.2.2 hl hi (by decide) (by decide +kernel) ?_
  refine law_P (pc := 977) (idx := 104) (As := [.int (xs (8 * i + 1))]) (w := some (.int v)) (vs := [.int v]) C hl.1 I q1 (by decide +kernel) lc_L_104 mo_P_award ⟨Nat.le_of_ble_eq_true rfl, Nat.le_of_ble_eq_true rfl⟩ (Nat.le_of_ble_eq_true rfl) (by show _ ≤ 600000; omega) (by show _ ≤ 7302250; omega) (fun _ => rfl) (fun _ => rfl) fun H1 I1 => ?_
  refine lv_aload_n (x := s.heap.size + 51) C.1.1 C.1.2.1 (by decide +kernel : decode code 980 = .ok (.aload_n 2, 1)) rfl (lv_at hl 1 rfl) ?_
  refine law_arg (pc := 981) 1 C hL I1.2.2.2.2 hl hi (by decide) (by decide +kernel) ?_
  refine law_R (pc := 986) (idx := 107) (As := [.int (xs (8 * i + 1))]) (rest := [.int v]) (w := some (.int v)) (vs := [.int v, .int v]) C hl.1 I1 q2 (by decide +kernel) lc_L_107 mo_R_award ⟨Nat.le_of_ble_eq_true rfl, Nat.le_of_ble_eq_true rfl⟩ (Nat.le_of_ble_eq_true rfl) (Nat.le_of_ble_eq_true rfl) (by show _ ≤ 600000; omega) (by show _ ≤ 7302250; omega) (fun _ => rfl) (fun _ => rfl) fun H2 I2 => ?_
  refine lv_icmp_eq (tgt := 2213) C.1.1 C.1.2.1 (by decide +kernel : decode code 989 = .ok (.if_icmp .eq 1224, 3)) (by decide) (fun _ => ?_) (fun z => absurd rfl z)
  exact W.widen (by omega) (by omega) (kk _ _ _ _ _ I2 R1 hw1)
set_option maxRecDepth 100000 in
set_option maxHeartbeats 4000000 in
theorem law_c22 (C : Lx G p s m meth c b L xs) (hL : L ≤ 4096) (hl : lv_has ls 4 [(3, .int (nj (8 * i))), (2, .ref (s.heap.size + 51)), (1, .ref s.heap.size), (0, .ref b)]) (hi : 8 * i + 8 ≤ L) (I : LJ G s pm rm H) (R : Rel nc w pm rm) (hb : w + 537600 < 2147483647) (hc : cells + 158 ≤ 600000) (hz : slots + 1300 ≤ 7302250) (kk : ∀ (nc1 w1 : Nat) (pm1 rm1 : Mem) (H1 : Heap), LJ G s pm1 rm1 H1 → Rel nc1 w1 pm1 rm1 → w1 ≤ w + 537600 → WL p l e s m below meth c b H1 (cells + 158) (slots + 1300) Q ls 2213 []) : WL p l e s m below meth c b H cells slots Q ls 994 [] := by
  obtain ⟨v, p1, r1, nc1, w1, e1, e2, R1, hw1, hc1, hs1⟩ := s_force R hb (xs (8 * i + 1)) (xs (8 * i + 2)) (xs (8 * i + 3)) (xs (8 * i + 4)) (fun v r' e => (R_force_run I.2.1.1 e).2.1.1.trans I.2.1.1.1.1.symm)
  have q1 := P_force_run I.2.2.1 e1
  have q2 := R_force_run I.2.1.1 e2
  refine lv_aload_n (x := s.heap.size) C.1.1 C.1.2.1 (by decide +kernel : decode code 994 = .ok (.aload_n 1, 1)) rfl (lv_at hl 2 rfl) ?_
  refine law_arg (pc := 995) 1 C hL I.2.2.2.2 hl hi (by decide) (by decide +kernel) ?_
  refine law_arg (pc := 1000) 2 C hL I.2.2.2.2 hl hi (by decide) (by decide +kernel) ?_
  refine law_arg (pc := 1005) 3 C hL I.2.2.2.2 hl hi (by decide) (by decide +kernel) ?_
  refine law_arg (pc := 1010) 4 C hL I.2.2.2.2 hl hi (by decide) (by decide +kernel) ?_
  refine law_P (pc := 1015) (idx := 108) (As := [.int (xs (8 * i + 1)), .int (xs (8 * i + 2)), .int (xs (8 * i + 3)), .int (xs (8 * i + 4))]) (w := some (.int v)) (vs := [.int v]) C hl.1 I q1 (by decide +kernel) lc_L_108 mo_P_force ⟨Nat.le_of_ble_eq_true rfl, Nat.le_of_ble_eq_true rfl⟩ (Nat.le_of_ble_eq_true rfl) (by show _ ≤ 600000; omega) (by show _ ≤ 7302250; omega) (fun _ => rfl) (fun _ => rfl) fun H1 I1 => ?_
  refine lv_aload_n (x := s.heap.size + 51) C.1.1 C.1.2.1 (by decide +kernel : decode code 1018 = .ok (.aload_n 2, 1)) rfl (lv_at hl 1 rfl) ?_
  refine law_arg (pc := 1019) 1 C hL I1.2.2.2.2 hl hi (by decide) (by decide +kernel) ?_
  refine law_arg (pc := 1024) 2 C hL I1.2.2.2.2 hl hi (by decide) (by decide +kernel) ?_
  refine law_arg (pc := 1029) 3 C hL I1.2.2.2.2 hl hi (by decide) (by decide +kernel) ?_
  refine law_arg (pc := 1034) 4 C hL I1.2.2.2.2 hl hi (by decide) (by decide +kernel) ?_
  refine law_R (pc := 1039) (idx := 111) (As := [.int (xs (8 * i + 1)), .int (xs (8 * i + 2)), .int (xs (8 * i + 3)), .int (xs (8 * i + 4))]) (rest := [.int v]) (w := some (.int v)) (vs := [.int v, .int v]) C hl.1 I1 q2 (by decide +kernel) lc_L_111 mo_R_force ⟨Nat.le_of_ble_eq_true rfl, Nat.le_of_ble_eq_true rfl⟩ (Nat.le_of_ble_eq_true rfl) (Nat.le_of_ble_eq_true rfl) (by show _ ≤ 600000; omega) (by show _ ≤ 7302250; omega) (fun _ => rfl) (fun _ => rfl) fun H2 I2 => ?_
  refine lv_icmp_eq (tgt := 2213) C.1.1 C.1.2.1 (by decide +kernel : decode code 1042 = .ok (.if_icmp .eq 1171, 3)) (by decide) (fun _ => ?_) (fun z => absurd rfl z)
  exact W.widen (by omega) (by omega) (kk _ _ _ _ _ I2 R1 hw1)
set_option maxRecDepth 100000 in
set_option maxHeartbeats 4000000 in
theorem law_c23 (C : Lx G p s m meth c b L xs) (hL : L ≤ 4096) (hl : lv_has ls 4 [(3, .int (nj (8 * i))), (2, .ref (s.heap.size + 51)), (1, .ref s.heap.size), (0, .ref b)]) (hi : 8 * i + 8 ≤ L) (I : LJ G s pm rm H) (R : Rel nc w pm rm) (hb : w + 537600 < 2147483647) (hc : cells + 158 ≤ 600000) (hz : slots + 1300 ≤ 7302250) (kk : ∀ (nc1 w1 : Nat) (pm1 rm1 : Mem) (H1 : Heap), LJ G s pm1 rm1 H1 → Rel nc1 w1 pm1 rm1 → w1 ≤ w + 537600 → WL p l e s m below meth c b H1 (cells + 158) (slots + 1300) Q ls 2213 []) : WL p l e s m below meth c b H cells slots Q ls 1047 [] := by
  obtain ⟨v, p1, r1, nc1, w1, e1, e2, R1, hw1, hc1, hs1⟩ := s_fate R hb (xs (8 * i + 1)) (xs (8 * i + 2)) (xs (8 * i + 3)) (xs (8 * i + 4)) (xs (8 * i + 5)) (fun v r' e => (R_fate_run I.2.1.1 e).2.1.1.trans I.2.1.1.1.1.symm)
  have q1 := P_fate_run I.2.2.1 e1
  have q2 := R_fate_run I.2.1.1 e2
  refine lv_aload_n (x := s.heap.size) C.1.1 C.1.2.1 (by decide +kernel : decode code 1047 = .ok (.aload_n 1, 1)) rfl (lv_at hl 2 rfl) ?_
  refine law_arg (pc := 1048) 1 C hL I.2.2.2.2 hl hi (by decide) (by decide +kernel) ?_
  refine law_arg (pc := 1053) 2 C hL I.2.2.2.2 hl hi (by decide) (by decide +kernel) ?_
  refine law_arg (pc := 1058) 3 C hL I.2.2.2.2 hl hi (by decide) (by decide +kernel) ?_
  refine law_arg (pc := 1063) 4 C hL I.2.2.2.2 hl hi (by decide) (by decide +kernel) ?_
  refine law_arg (pc := 1068) 5 C hL I.2.2.2.2 hl hi (by decide) (by decide +kernel) ?_
  refine law_P (pc := 1073) (idx := 112) (As := [.int (xs (8 * i + 1)), .int (xs (8 * i + 2)), .int (xs (8 * i + 3)), .int (xs (8 * i + 4)), .int (xs (8 * i + 5))]) (w := some (.int v)) (vs := [.int v]) C hl.1 I q1 (by decide +kernel) lc_L_112 mo_P_fate ⟨Nat.le_of_ble_eq_true rfl, Nat.le_of_ble_eq_true rfl⟩ (Nat.le_of_ble_eq_true rfl) (by show _ ≤ 600000; omega) (by show _ ≤ 7302250; omega) (fun _ => rfl) (fun _ => rfl) fun H1 I1 => ?_
  refine lv_aload_n (x := s.heap.size + 51) C.1.1 C.1.2.1 (by decide +kernel : decode code 1076 = .ok (.aload_n 2, 1)) rfl (lv_at hl 1 rfl) ?_
  refine law_arg (pc := 1077) 1 C hL I1.2.2.2.2 hl hi (by decide) (by decide +kernel) ?_
  refine law_arg (pc := 1082) 2 C hL I1.2.2.2.2 hl hi (by decide) (by decide +kernel) ?_
  refine law_arg (pc := 1087) 3 C hL I1.2.2.2.2 hl hi (by decide) (by decide +kernel) ?_
  refine law_arg (pc := 1092) 4 C hL I1.2.2.2.2 hl hi (by decide) (by decide +kernel) ?_
  refine law_arg (pc := 1097) 5 C hL I1.2.2.2.2 hl hi (by decide) (by decide +kernel) ?_
  refine law_R (pc := 1102) (idx := 115) (As := [.int (xs (8 * i + 1)), .int (xs (8 * i + 2)), .int (xs (8 * i + 3)), .int (xs (8 * i + 4)), .int (xs (8 * i + 5))]) (rest := [.int v]) (w := some (.int v)) (vs := [.int v, .int v]) C hl.1 I1 q2 (by decide +kernel) lc_L_115 mo_R_fate ⟨Nat.le_of_ble_eq_true rfl, Nat.le_of_ble_eq_true rfl⟩ (Nat.le_of_ble_eq_true rfl) (Nat.le_of_ble_eq_true rfl) (by show _ ≤ 600000; omega) (by show _ ≤ 7302250; omega) (fun _ => rfl) (fun _ => rfl) fun H2 I2 => ?_
  refine lv_icmp_eq (tgt := 2213) C.1.1 C.1.2.1 (by decide +kernel : decode code 1105 = .ok (.if_icmp .eq 1108, 3)) (by decide) (fun _ => ?_) (fun z => absurd rfl z)
  exact W.widen (by omega) (by omega) (kk _ _ _ _ _ I2 R1 hw1)
end Cs
