/-! Layer D: the law's calls (written by gen/law.py) -/
section Cs
variable {p : Program} {l : Launch} {e : Env} {s : State} {m : MethodId} {below : List Frame} {meth : Method} {c : Code} {b L : Nat} {xs : Nat → Int32} {G : GG} {H : Heap} {cells slots nc w i : Nat} {ls : Array Slot} {Q : State → Prop} {pm rm : Mem}
set_option maxRecDepth 100000 in
set_option maxHeartbeats 4000000 in
theorem law_c36 (C : Lx G p s m meth c b L xs) (hL : L ≤ 4096) (hl : lv_has ls 4 [(3, .int (nj (8 * i))), (2, .ref (s.heap.size + 51)), (1, .ref s.heap.size), (0, .ref b)]) (hi : 8 * i + 8 ≤ L) (I : LJ G s pm rm H) (R : Rel nc w pm rm) (hb : w + 537600 < 2147483647) (hc : cells + 158 ≤ 600000) (hz : slots + 1300 ≤ 7302250) (kk : ∀ (nc1 w1 : Nat) (pm1 rm1 : Mem) (H1 : Heap), LJ G s pm1 rm1 H1 → Rel nc1 w1 pm1 rm1 → w1 ≤ w + 537600 → WL p l e s m below meth c b H1 (cells + 158) (slots + 1300) Q ls 2213 []) : WL p l e s m below meth c b H cells slots Q ls 1778 [] := by
  obtain ⟨v, p1, r1, nc1, w1, e1, e2, R1, hw1, hc1, hs1⟩ := s_owed R hb (xs (8 * i + 1)) (xs (8 * i + 2)) (xs (8 * i + 3)) (fun v r' e => (R_owed_run I.2.1.1 e).2.1.1.trans I.2.1.1.1.1.symm)
  have q1 := P_owed_run I.2.2.1 e1
  have q2 := R_owed_run I.2.1.1 e2
  refine lv_aload_n (x := s.heap.size) C.1.1 C.1.2.1 (by decide +kernel : decode code 1778 = .ok (.aload_n 1, 1)) rfl (lv_at hl 2 rfl) ?_
  refine law_arg (pc := 1779) 1 C hL I.2.2.2.2 hl hi (by decide) (by decide +kernel) ?_
  refine law_arg (pc := 1784) 2 C hL I.2.2.2.2 hl hi (by decide) (by decide +kernel) ?_
  refine law_arg (pc := 1789) 3 C hL I.2.2.2.2 hl hi (by decide) (by decide +kernel) ?_
  refine law_P (pc := 1794) (idx := 165) (As := [.int (xs (8 * i + 1)), .int (xs (8 * i + 2)), .int (xs (8 * i + 3))]) (w := some (.int v)) (vs := [.int v]) C hl.1 I q1 (by decide +kernel) lc_L_165 mo_P_owed ⟨Nat.le_of_ble_eq_true rfl, Nat.le_of_ble_eq_true rfl⟩ (Nat.le_of_ble_eq_true rfl) (by show _ ≤ 600000; omega) (by show _ ≤ 7302250; omega) (fun _ => rfl) (fun _ => rfl) fun H1 I1 => ?_
  refine lv_aload_n (x := s.heap.size + 51) C.1.1 C.1.2.1 (by decide +kernel : decode code 1797 = .ok (.aload_n 2, 1)) rfl (lv_at hl 1 rfl) ?_
  refine law_arg (pc := 1798) 1 C hL I1.2.2.2.2 hl hi (by decide) (by decide +kernel) ?_
  refine law_arg (pc := 1803) 2 C hL I1.2.2.2.2 hl hi (by decide) (by decide +kernel) ?_
  refine law_arg (pc := 1808) 3 C hL I1.2.2.2.2 hl hi (by decide) (by decide +kernel) ?_
  refine law_R (pc := 1813) (idx := 168) (As := [.int (xs (8 * i + 1)), .int (xs (8 * i + 2)), .int (xs (8 * i + 3))]) (rest := [.int v]) (w := some (.int v)) (vs := [.int v, .int v]) C hl.1 I1 q2 (by decide +kernel) lc_L_168 mo_R_owed ⟨Nat.le_of_ble_eq_true rfl, Nat.le_of_ble_eq_true rfl⟩ (Nat.le_of_ble_eq_true rfl) (Nat.le_of_ble_eq_true rfl) (by show _ ≤ 600000; omega) (by show _ ≤ 7302250; omega) (fun _ => rfl) (fun _ => rfl) fun H2 I2 => ?_
  refine lv_icmp_eq (tgt := 2213) C.1.1 C.1.2.1 (by decide +kernel : decode code 1816 = .ok (.if_icmp .eq 397, 3)) (by decide) (fun _ => ?_) (fun z => absurd rfl z)
  exact W.widen (by omega) (by omega) (kk _ _ _ _ _ I2 R1 hw1)
set_option maxRecDepth 100000 in
set_option maxHeartbeats 4000000 in
theorem law_c37 (C : Lx G p s m meth c b L xs) (hL : L ≤ 4096) (hl : lv_has ls 4 [(3, .int (nj (8 * i))), (2, .ref (s.heap.size + 51)), (1, .ref s.heap.size), (0, .ref b)]) (hi : 8 * i + 8 ≤ L) (I : LJ G s pm rm H) (R : Rel nc w pm rm) (hb : w + 537600 < 2147483647) (hc : cells + 158 ≤ 600000) (hz : slots + 1300 ≤ 7302250) (kk : ∀ (nc1 w1 : Nat) (pm1 rm1 : Mem) (H1 : Heap), LJ G s pm1 rm1 H1 → Rel nc1 w1 pm1 rm1 → w1 ≤ w + 537600 → WL p l e s m below meth c b H1 (cells + 158) (slots + 1300) Q ls 2213 []) : WL p l e s m below meth c b H cells slots Q ls 1821 [] := by
  obtain ⟨v, p1, r1, nc1, w1, e1, e2, R1, hw1, hc1, hs1⟩ := s_shorted R hb (xs (8 * i + 1)) (xs (8 * i + 2)) (xs (8 * i + 3)) (bz (xs (8 * i + 4))) (xs (8 * i + 5)) (bz_01 _) (fun v r' e => (R_shorted_run I.2.1.1 e).2.1.1.trans I.2.1.1.1.1.symm)
  have q1 := P_shorted_run I.2.2.1 e1
  have q2 := R_shorted_run I.2.1.1 e2
  refine lv_aload_n (x := s.heap.size) C.1.1 C.1.2.1 (by decide +kernel : decode code 1821 = .ok (.aload_n 1, 1)) rfl (lv_at hl 2 rfl) ?_
  refine law_arg (pc := 1822) 1 C hL I.2.2.2.2 hl hi (by decide) (by decide +kernel) ?_
  refine law_arg (pc := 1827) 2 C hL I.2.2.2.2 hl hi (by decide) (by decide +kernel) ?_
  refine law_arg (pc := 1832) 3 C hL I.2.2.2.2 hl hi (by decide) (by decide +kernel) ?_
  refine law_arg (pc := 1837) 4 C hL I.2.2.2.2 hl hi (by decide) (by decide +kernel) ?_
  refine law_bool (pc := 1842) C (by decide +kernel) ?_
  refine law_arg (pc := 1850) 5 C hL I.2.2.2.2 hl hi (by decide) (by decide +kernel) ?_
  refine law_P (pc := 1855) (idx := 169) (As := [.int (xs (8 * i + 1)), .int (xs (8 * i + 2)), .int (xs (8 * i + 3)), .int (bz (xs (8 * i + 4))), .int (xs (8 * i + 5))]) (w := some (.long v)) (vs := [.long v]) C hl.1 I q1 (by decide +kernel) lc_L_169 mo_P_shorted ⟨Nat.le_of_ble_eq_true rfl, Nat.le_of_ble_eq_true rfl⟩ (Nat.le_of_ble_eq_true rfl) (by show _ ≤ 600000; omega) (by show _ ≤ 7302250; omega) (fun _ => rfl) (fun _ => rfl) fun H1 I1 => ?_
  refine lv_aload_n (x := s.heap.size + 51) C.1.1 C.1.2.1 (by decide +kernel : decode code 1858 = .ok (.aload_n 2, 1)) rfl (lv_at hl 1 rfl) ?_
  refine law_arg (pc := 1859) 1 C hL I1.2.2.2.2 hl hi (by decide) (by decide +kernel) ?_
  refine law_arg (pc := 1864) 2 C hL I1.2.2.2.2 hl hi (by decide) (by decide +kernel) ?_
  refine law_arg (pc := 1869) 3 C hL I1.2.2.2.2 hl hi (by decide) (by decide +kernel) ?_
  refine law_arg (pc := 1874) 4 C hL I1.2.2.2.2 hl hi (by decide) (by decide +kernel) ?_
  refine law_bool (pc := 1879) C (by decide +kernel) ?_
  refine law_arg (pc := 1887) 5 C hL I1.2.2.2.2 hl hi (by decide) (by decide +kernel) ?_
  refine law_R (pc := 1892) (idx := 173) (As := [.int (xs (8 * i + 1)), .int (xs (8 * i + 2)), .int (xs (8 * i + 3)), .int (bz (xs (8 * i + 4))), .int (xs (8 * i + 5))]) (rest := [.long v]) (w := some (.long v)) (vs := [.long v, .long v]) C hl.1 I1 q2 (by decide +kernel) lc_L_173 mo_R_shorted ⟨Nat.le_of_ble_eq_true rfl, Nat.le_of_ble_eq_true rfl⟩ (Nat.le_of_ble_eq_true rfl) (Nat.le_of_ble_eq_true rfl) (by show _ ≤ 600000; omega) (by show _ ≤ 7302250; omega) (fun _ => rfl) (fun _ => rfl) fun H2 I2 => ?_
  refine W.lcmp C.1.1 C.1.2.1 (by decide +kernel : decode code 1895 = .ok (.lcmp, 1)) ?_
  rw [lg_self]
  refine lv_if_eq (tgt := 2213) C.1.1 C.1.2.1 (by decide +kernel : decode code 1896 = .ok (.ifCond .eq 317, 3)) (by decide) (fun _ => ?_) (fun z => absurd rfl z)
  exact W.widen (by omega) (by omega) (kk _ _ _ _ _ I2 R1 hw1)
set_option maxRecDepth 100000 in
set_option maxHeartbeats 4000000 in
theorem law_c38 (C : Lx G p s m meth c b L xs) (hL : L ≤ 4096) (hl : lv_has ls 4 [(3, .int (nj (8 * i))), (2, .ref (s.heap.size + 51)), (1, .ref s.heap.size), (0, .ref b)]) (hi : 8 * i + 8 ≤ L) (I : LJ G s pm rm H) (R : Rel nc w pm rm) (hb : w + 537600 < 2147483647) (hc : cells + 158 ≤ 600000) (hz : slots + 1300 ≤ 7302250) (kk : ∀ (nc1 w1 : Nat) (pm1 rm1 : Mem) (H1 : Heap), LJ G s pm1 rm1 H1 → Rel nc1 w1 pm1 rm1 → w1 ≤ w + 537600 → WL p l e s m below meth c b H1 (cells + 158) (slots + 1300) Q ls 2213 []) : WL p l e s m below meth c b H cells slots Q ls 1901 [] := by
  obtain ⟨v, p1, r1, nc1, w1, e1, e2, R1, hw1, hc1, hs1⟩ := s_tried R hb (xs (8 * i + 1)) (xs (8 * i + 2)) (xs (8 * i + 3)) (xs (8 * i + 4)) (xs (8 * i + 5)) (xs (8 * i + 6)) (xs (8 * i + 7)) (fun v r' e => (R_tried_run I.2.1.1 e).2.1.1.trans I.2.1.1.1.1.symm)
  have q1 := P_tried_run I.2.2.1 e1
  have q2 := R_tried_run I.2.1.1 e2
  refine lv_aload_n (x := s.heap.size) C.1.1 C.1.2.1 (by decide +kernel : decode code 1901 = .ok (.aload_n 1, 1)) rfl (lv_at hl 2 rfl) ?_
  refine law_arg (pc := 1902) 1 C hL I.2.2.2.2 hl hi (by decide) (by decide +kernel) ?_
  refine law_arg (pc := 1907) 2 C hL I.2.2.2.2 hl hi (by decide) (by decide +kernel) ?_
  refine law_arg (pc := 1912) 3 C hL I.2.2.2.2 hl hi (by decide) (by decide +kernel) ?_
  refine law_arg (pc := 1917) 4 C hL I.2.2.2.2 hl hi (by decide) (by decide +kernel) ?_
  refine law_arg (pc := 1922) 5 C hL I.2.2.2.2 hl hi (by decide) (by decide +kernel) ?_
  refine law_argB (pc := 1927) 6 C hL I.2.2.2.2 hl hi (by decide) (by decide +kernel) ?_
  refine law_argB (pc := 1933) 7 C hL I.2.2.2.2 hl hi (by decide) (by decide +kernel) ?_
  refine law_P (pc := 1939) (idx := 174) (As := [.int (xs (8 * i + 1)), .int (xs (8 * i + 2)), .int (xs (8 * i + 3)), .int (xs (8 * i + 4)), .int (xs (8 * i + 5)), .int (xs (8 * i + 6)), .int (xs (8 * i + 7))]) (w := some (.long v)) (vs := [.long v]) C hl.1 I q1 (by decide +kernel) lc_L_174 mo_P_tried ⟨Nat.le_of_ble_eq_true rfl, Nat.le_of_ble_eq_true rfl⟩ (Nat.le_of_ble_eq_true rfl) (by show _ ≤ 600000; omega) (by show _ ≤ 7302250; omega) (fun _ => rfl) (fun _ => rfl) fun H1 I1 => ?_
  refine lv_aload_n (x := s.heap.size + 51) C.1.1 C.1.2.1 (by decide +kernel : decode code 1942 = .ok (.aload_n 2, 1)) rfl (lv_at hl 1 rfl) ?_
  refine law_arg (pc := 1943) 1 C hL I1.2.2.2.2 hl hi (by decide) (by decide +kernel) ?_
  refine law_arg (pc := 1948) 2 C hL I1.2.2.2.2 hl hi (by decide) (by decide +kernel) ?_
  refine law_arg (pc := 1953) 3 C hL I1.2.2.2.2 hl hi (by decide) (by decide +kernel) ?_
  refine law_arg (pc := 1958) 4 C hL I1.2.2.2.2 hl hi (by decide) (by decide +kernel) ?_
  refine law_arg (pc := 1963) 5 C hL I1.2.2.2.2 hl hi (by decide) (by decide +kernel) ?_
  refine law_argB (pc := 1968) 6 C hL I1.2.2.2.2 hl hi (by decide) (by decide +kernel) ?_
  refine law_argB (pc := 1974) 7 C hL I1.2.2.2.2 hl hi (by decide) (by decide +kernel) ?_
  refine law_R (pc := 1980) (idx := 178) (As := [.int (xs (8 * i + 1)), .int (xs (8 * i + 2)), .int (xs (8 * i + 3)), .int (xs (8 * i + 4)), .int (xs (8 * i + 5)), .int (xs (8 * i + 6)), .int (xs (8 * i + 7))]) (rest := [.long v]) (w := some (.long v)) (vs := [.long v, .long v]) C hl.1 I1 q2 (by decide +kernel) lc_L_178 mo_R_tried ⟨Nat.le_of_ble_eq_true rfl, Nat.le_of_ble_eq_true rfl⟩ (Nat.le_of_ble_eq_true rfl) (Nat.le_of_ble_eq_true rfl) (by show _ ≤ 600000; omega) (by show _ ≤ 7302250; omega) (fun _ => rfl) (fun _ => rfl) fun H2 I2 => ?_
  refine W.lcmp C.1.1 C.1.2.1 (by decide +kernel : decode code 1983 = .ok (.lcmp, 1)) ?_
  rw [lg_self]
  refine lv_if_eq (tgt := 2213) C.1.1 C.1.2.1 (by decide +kernel : decode code 1984 = .ok (.ifCond .eq 229, 3)) (by decide) (fun _ => ?_) (fun z => absurd rfl z)
  exact W.widen (by omega) (by omega) (kk _ _ _ _ _ I2 R1 hw1)
set_option maxRecDepth 100000 in
set_option maxHeartbeats 4000000 in
theorem law_c39 (C : Lx G p s m meth c b L xs) (hL : L ≤ 4096) (hl : lv_has ls 4 [(3, .int (nj (8 * i))), (2, .ref (s.heap.size + 51)), (1, .ref s.heap.size), (0, .ref b)]) (hi : 8 * i + 8 ≤ L) (I : LJ G s pm rm H) (R : Rel nc w pm rm) (hb : w + 537600 < 2147483647) (hc : cells + 158 ≤ 600000) (hz : slots + 1300 ≤ 7302250) (kk : ∀ (nc1 w1 : Nat) (pm1 rm1 : Mem) (H1 : Heap), LJ G s pm1 rm1 H1 → Rel nc1 w1 pm1 rm1 → w1 ≤ w + 537600 → WL p l e s m below meth c b H1 (cells + 158) (slots + 1300) Q ls 2213 []) : WL p l e s m below meth c b H cells slots Q ls 1989 [] := by
  obtain ⟨v, p1, r1, nc1, w1, e1, e2, R1, hw1, hc1, hs1⟩ := s_value R hb (xs (8 * i + 1)) (xs (8 * i + 2)) (fun v r' e => (R_value_run I.2.1.1 e).2.1.1.trans I.2.1.1.1.1.symm)
  have q1 := P_value_run I.2.2.1 e1
  have q2 := R_value_run I.2.1.1 e2
  refine lv_aload_n (x := s.heap.size) C.1.1 C.1.2.1 (by decide +kernel : decode code 1989 = .ok (.aload_n 1, 1)) rfl (lv_at hl 2 rfl) ?_
  refine law_arg (pc := 1990) 1 C hL I.2.2.2.2 hl hi (by decide) (by decide +kernel) ?_
  refine law_arg (pc := 1995) 2 C hL I.2.2.2.2 hl hi (by decide) (by decide +kernel) ?_
  refine law_P (pc := 2000) (idx := 179) (As := [.int (xs (8 * i + 1)), .int (xs (8 * i + 2))]) (w := some (.int v)) (vs := [.int v]) C hl.1 I q1 (by decide +kernel) lc_L_179 mo_P_value ⟨Nat.le_of_ble_eq_true rfl, Nat.le_of_ble_eq_true rfl⟩ (Nat.le_of_ble_eq_true rfl) (by show _ ≤ 600000; omega) (by show _ ≤ 7302250; omega) (fun _ => rfl) (fun _ => rfl) fun H1 I1 => ?_
  refine lv_aload_n (x := s.heap.size + 51) C.1.1 C.1.2.1 (by decide +kernel : decode code 2003 = .ok (.aload_n 2, 1)) rfl (lv_at hl 1 rfl) ?_
  refine law_arg (pc := 2004) 1 C hL I1.2.2.2.2 hl hi (by decide) (by decide +kernel) ?_
  refine law_arg (pc := 2009) 2 C hL I1.2.2.2.2 hl hi (by decide) (by decide +kernel) ?_
  refine law_R (pc := 2014) (idx := 182) (As := [.int (xs (8 * i + 1)), .int (xs (8 * i + 2))]) (rest := [.int v]) (w := some (.int v)) (vs := [.int v, .int v]) C hl.1 I1 q2 (by decide +kernel) lc_L_182 mo_R_value ⟨Nat.le_of_ble_eq_true rfl, Nat.le_of_ble_eq_true rfl⟩ (Nat.le_of_ble_eq_true rfl) (Nat.le_of_ble_eq_true rfl) (by show _ ≤ 600000; omega) (by show _ ≤ 7302250; omega) (fun _ => rfl) (fun _ => rfl) fun H2 I2 => ?_
  refine lv_icmp_eq (tgt := 2213) C.1.1 C.1.2.1 (by decide +kernel : decode code 2017 = .ok (.if_icmp .eq 196, 3)) (by decide) (fun _ => ?_) (fun z => absurd rfl z)
  exact W.widen (by omega) (by omega) (kk _ _ _ _ _ I2 R1 hw1)
set_option maxRecDepth 100000 in
set_option maxHeartbeats 4000000 in
theorem law_c40 (C : Lx G p s m meth c b L xs) (hL : L ≤ 4096) (hl : lv_has ls 4 [(3, .int (nj (8 * i))), (2, .ref (s.heap.size + 51)), (1, .ref s.heap.size), (0, .ref b)]) (hi : 8 * i + 8 ≤ L) (I : LJ G s pm rm H) (R : Rel nc w pm rm) (hb : w + 537600 < 2147483647) (hc : cells + 158 ≤ 600000) (hz : slots + 1300 ≤ 7302250) (kk : ∀ (nc1 w1 : Nat) (pm1 rm1 : Mem) (H1 : Heap), LJ G s pm1 rm1 H1 → Rel nc1 w1 pm1 rm1 → w1 ≤ w + 537600 → WL p l e s m below meth c b H1 (cells + 158) (slots + 1300) Q ls 2213 []) : WL p l e s m below meth c b H cells slots Q ls 2022 [] := by
  obtain ⟨v, p1, r1, nc1, w1, e1, e2, R1, hw1, hc1, hs1⟩ := s_apart R hb (xs (8 * i + 1)) (xs (8 * i + 2)) (bz (xs (8 * i + 3))) (bz_01 _) (fun v r' e => (R_apart_run I.2.1.1 e).2.1.1.trans I.2.1.1.1.1.symm)
  have q1 := P_apart_run I.2.2.1 e1
  have q2 := R_apart_run I.2.1.1 e2
  refine lv_aload_n (x := s.heap.size) C.1.1 C.1.2.1 (by decide +kernel : decode code 2022 = .ok (.aload_n 1, 1)) rfl (lv_at hl 2 rfl) ?_
  refine law_arg (pc := 2023) 1 C hL I.2.2.2.2 hl hi (by decide) (by decide +kernel) ?_
  refine law_arg (pc := 2028) 2 C hL I.2.2.2.2 hl hi (by decide) (by decide +kernel) ?_
  refine law_arg (pc := 2033) 3 C hL I.2.2.2.2 hl hi (by decide) (by decide +kernel) ?_
  refine law_bool (pc := 2038) C (by decide +kernel) ?_
  refine law_P (pc := 2046) (idx := 183) (As := [.int (xs (8 * i + 1)), .int (xs (8 * i + 2)), .int (bz (xs (8 * i + 3)))]) (w := some (.int v)) (vs := [.int v]) C hl.1 I q1 (by decide +kernel) lc_L_183 mo_P_apart ⟨Nat.le_of_ble_eq_true rfl, Nat.le_of_ble_eq_true rfl⟩ (Nat.le_of_ble_eq_true rfl) (by show _ ≤ 600000; omega) (by show _ ≤ 7302250; omega) (fun _ => rfl) (fun _ => rfl) fun H1 I1 => ?_
  refine lv_aload_n (x := s.heap.size + 51) C.1.1 C.1.2.1 (by decide +kernel : decode code 2049 = .ok (.aload_n 2, 1)) rfl (lv_at hl 1 rfl) ?_
  refine law_arg (pc := 2050) 1 C hL I1.2.2.2.2 hl hi (by decide) (by decide +kernel) ?_
  refine law_arg (pc := 2055) 2 C hL I1.2.2.2.2 hl hi (by decide) (by decide +kernel) ?_
  refine law_arg (pc := 2060) 3 C hL I1.2.2.2.2 hl hi (by decide) (by decide +kernel) ?_
  refine law_bool (pc := 2065) C (by decide +kernel) ?_
  refine law_R (pc := 2073) (idx := 187) (As := [.int (xs (8 * i + 1)), .int (xs (8 * i + 2)), .int (bz (xs (8 * i + 3)))]) (rest := [.int v]) (w := some (.int v)) (vs := [.int v, .int v]) C hl.1 I1 q2 (by decide +kernel) lc_L_187 mo_R_apart ⟨Nat.le_of_ble_eq_true rfl, Nat.le_of_ble_eq_true rfl⟩ (Nat.le_of_ble_eq_true rfl) (Nat.le_of_ble_eq_true rfl) (by show _ ≤ 600000; omega) (by show _ ≤ 7302250; omega) (fun _ => rfl) (fun _ => rfl) fun H2 I2 => ?_
  refine lv_icmp_eq (tgt := 2213) C.1.1 C.1.2.1 (by decide +kernel : decode code 2076 = .ok (.if_icmp .eq 137, 3)) (by decide) (fun _ => ?_) (fun z => absurd rfl z)
  exact W.widen (by omega) (by omega) (kk _ _ _ _ _ I2 R1 hw1)
set_option maxRecDepth 100000 in
set_option maxHeartbeats 4000000 in
theorem law_c41 (C : Lx G p s m meth c b L xs) (hL : L ≤ 4096) (hl : lv_has ls 4 [(3, .int (nj (8 * i))), (2, .ref (s.heap.size + 51)), (1, .ref s.heap.size), (0, .ref b)]) (hi : 8 * i + 8 ≤ L) (I : LJ G s pm rm H) (R : Rel nc w pm rm) (hb : w + 537600 < 2147483647) (hc : cells + 158 ≤ 600000) (hz : slots + 1300 ≤ 7302250) (kk : ∀ (nc1 w1 : Nat) (pm1 rm1 : Mem) (H1 : Heap), LJ G s pm1 rm1 H1 → Rel nc1 w1 pm1 rm1 → w1 ≤ w + 537600 → WL p l e s m below meth c b H1 (cells + 158) (slots + 1300) Q ls 2213 []) : WL p l e s m below meth c b H cells slots Q ls 2081 [] := by
  obtain ⟨v, p1, r1, nc1, w1, e1, e2, R1, hw1, hc1, hs1⟩ := s_parting R hb (xs (8 * i + 1)) (xs (8 * i + 2)) (xs (8 * i + 3)) (fun v r' e => (R_parting_run I.2.1.1 e).2.1.1.trans I.2.1.1.1.1.symm)
  have q1 := P_parting_run I.2.2.1 e1
  have q2 := R_parting_run I.2.1.1 e2
  refine lv_aload_n (x := s.heap.size) C.1.1 C.1.2.1 (by decide +kernel : decode code 2081 = .ok (.aload_n 1, 1)) rfl (lv_at hl 2 rfl) ?_
  refine law_arg (pc := 2082) 1 C hL I.2.2.2.2 hl hi (by decide) (by decide +kernel) ?_
  refine law_arg (pc := 2087) 2 C hL I.2.2.2.2 hl hi (by decide) (by decide +kernel) ?_
  refine law_arg (pc := 2092) 3 C hL I.2.2.2.2 hl hi (by decide) (by decide +kernel) ?_
  refine law_P (pc := 2097) (idx := 188) (As := [.int (xs (8 * i + 1)), .int (xs (8 * i + 2)), .int (xs (8 * i + 3))]) (w := some (.int v)) (vs := [.int v]) C hl.1 I q1 (by decide +kernel) lc_L_188 mo_P_parting ⟨Nat.le_of_ble_eq_true rfl, Nat.le_of_ble_eq_true rfl⟩ (Nat.le_of_ble_eq_true rfl) (by show _ ≤ 600000; omega) (by show _ ≤ 7302250; omega) (fun _ => rfl) (fun _ => rfl) fun H1 I1 => ?_
  refine lv_aload_n (x := s.heap.size + 51) C.1.1 C.1.2.1 (by decide +kernel : decode code 2100 = .ok (.aload_n 2, 1)) rfl (lv_at hl 1 rfl) ?_
  refine law_arg (pc := 2101) 1 C hL I1.2.2.2.2 hl hi (by decide) (by decide +kernel) ?_
  refine law_arg (pc := 2106) 2 C hL I1.2.2.2.2 hl hi (by decide) (by decide +kernel) ?_
  refine law_arg (pc := 2111) 3 C hL I1.2.2.2.2 hl hi (by decide) (by decide +kernel) ?_
  refine law_R (pc := 2116) (idx := 191) (As := [.int (xs (8 * i + 1)), .int (xs (8 * i + 2)), .int (xs (8 * i + 3))]) (rest := [.int v]) (w := some (.int v)) (vs := [.int v, .int v]) C hl.1 I1 q2 (by decide +kernel) lc_L_191 mo_R_parting ⟨Nat.le_of_ble_eq_true rfl, Nat.le_of_ble_eq_true rfl⟩ (Nat.le_of_ble_eq_true rfl) (Nat.le_of_ble_eq_true rfl) (by show _ ≤ 600000; omega) (by show _ ≤ 7302250; omega) (fun _ => rfl) (fun _ => rfl) fun H2 I2 => ?_
  refine lv_icmp_eq (tgt := 2213) C.1.1 C.1.2.1 (by decide +kernel : decode code 2119 = .ok (.if_icmp .eq 94, 3)) (by decide) (fun _ => ?_) (fun z => absurd rfl z)
  exact W.widen (by omega) (by omega) (kk _ _ _ _ _ I2 R1 hw1)
set_option maxRecDepth 100000 in
set_option maxHeartbeats 4000000 in
theorem law_c42 (C : Lx G p s m meth c b L xs) (hL : L ≤ 4096) (hl : lv_has ls 4 [(3, .int (nj (8 * i))), (2, .ref (s.heap.size + 51)), (1, .ref s.heap.size), (0, .ref b)]) (hi : 8 * i + 8 ≤ L) (I : LJ G s pm rm H) (R : Rel nc w pm rm) (hb : w + 537600 < 2147483647) (hc : cells + 158 ≤ 600000) (hz : slots + 1300 ≤ 7302250) (kk : ∀ (nc1 w1 : Nat) (pm1 rm1 : Mem) (H1 : Heap), LJ G s pm1 rm1 H1 → Rel nc1 w1 pm1 rm1 → w1 ≤ w + 537600 → WL p l e s m below meth c b H1 (cells + 158) (slots + 1300) Q ls 2213 []) : WL p l e s m below meth c b H cells slots Q ls 2124 [] := by
  obtain ⟨v, p1, r1, nc1, w1, e1, e2, R1, hw1, hc1, hs1⟩ := s_part R hb (xs (8 * i + 1)) (xs (8 * i + 2)) (fun v r' e => (R_part_run I.2.1.1 e).2.1.1.trans I.2.1.1.1.1.symm)
  have q1 := P_part_run I.2.2.1 e1
  have q2 := R_part_run I.2.1.1 e2
  refine lv_aload_n (x := s.heap.size) C.1.1 C.1.2.1 (by decide +kernel : decode code 2124 = .ok (.aload_n 1, 1)) rfl (lv_at hl 2 rfl) ?_
  refine law_arg (pc := 2125) 1 C hL I.2.2.2.2 hl hi (by decide) (by decide +kernel) ?_
  refine law_arg (pc := 2130) 2 C hL I.2.2.2.2 hl hi (by decide) (by decide +kernel) ?_
  refine law_P (pc := 2135) (idx := 192) (As := [.int (xs (8 * i + 1)), .int (xs (8 * i + 2))]) (w := some (.int v)) (vs := [.int v]) C hl.1 I q1 (by decide +kernel) lc_L_192 mo_P_part ⟨Nat.le_of_ble_eq_true rfl, Nat.le_of_ble_eq_true rfl⟩ (Nat.le_of_ble_eq_true rfl) (by show _ ≤ 600000; omega) (by show _ ≤ 7302250; omega) (fun _ => rfl) (fun _ => rfl) fun H1 I1 => ?_
  refine lv_aload_n (x := s.heap.size + 51) C.1.1 C.1.2.1 (by decide +kernel : decode code 2138 = .ok (.aload_n 2, 1)) rfl (lv_at hl 1 rfl) ?_
  refine law_arg (pc := 2139) 1 C hL I1.2.2.2.2 hl hi (by decide) (by decide +kernel) ?_
  refine law_arg (pc := 2144) 2 C hL I1.2.2.2.2 hl hi (by decide) (by decide +kernel) ?_
  refine law_R (pc := 2149) (idx := 195) (As := [.int (xs (8 * i + 1)), .int (xs (8 * i + 2))]) (rest := [.int v]) (w := some (.int v)) (vs := [.int v, .int v]) C hl.1 I1 q2 (by decide +kernel) lc_L_195 mo_R_part ⟨Nat.le_of_ble_eq_true rfl, Nat.le_of_ble_eq_true rfl⟩ (Nat.le_of_ble_eq_true rfl) (Nat.le_of_ble_eq_true rfl) (by show _ ≤ 600000; omega) (by show _ ≤ 7302250; omega) (fun _ => rfl) (fun _ => rfl) fun H2 I2 => ?_
  refine lv_icmp_eq (tgt := 2213) C.1.1 C.1.2.1 (by decide +kernel : decode code 2152 = .ok (.if_icmp .eq 61, 3)) (by decide) (fun _ => ?_) (fun z => absurd rfl z)
  exact W.widen (by omega) (by omega) (kk _ _ _ _ _ I2 R1 hw1)
set_option maxRecDepth 100000 in
set_option maxHeartbeats 4000000 in
theorem law_c43 (C : Lx G p s m meth c b L xs) (hL : L ≤ 4096) (hl : lv_has ls 4 [(3, .int (nj (8 * i))), (2, .ref (s.heap.size + 51)), (1, .ref s.heap.size), (0, .ref b)]) (hi : 8 * i + 8 ≤ L) (I : LJ G s pm rm H) (R : Rel nc w pm rm) (hb : w + 537600 < 2147483647) (hc : cells + 158 ≤ 600000) (hz : slots + 1300 ≤ 7302250) (kk : ∀ (nc1 w1 : Nat) (pm1 rm1 : Mem) (H1 : Heap), LJ G s pm1 rm1 H1 → Rel nc1 w1 pm1 rm1 → w1 ≤ w + 537600 → WL p l e s m below meth c b H1 (cells + 158) (slots + 1300) Q ls 2213 []) : WL p l e s m below meth c b H cells slots Q ls 2157 [] := by
  obtain ⟨v, p1, r1, nc1, w1, e1, e2, R1, hw1, hc1, hs1⟩ := s_turned R hb (xs (8 * i + 1)) (xs (8 * i + 2)) (fun v r' e => (R_turned_run I.2.1.1 e).2.1.1.trans I.2.1.1.1.1.symm)
  have q1 := P_turned_run I.2.2.1 e1
  have q2 := R_turned_run I.2.1.1 e2
  refine lv_aload_n (x := s.heap.size) C.1.1 C.1.2.1 (by decide +kernel : decode code 2157 = .ok (.aload_n 1, 1)) rfl (lv_at hl 2 rfl) ?_
  refine law_arg (pc := 2158) 1 C hL I.2.2.2.2 hl hi (by decide) (by decide +kernel) ?_
  refine law_arg (pc := 2163) 2 C hL I.2.2.2.2 hl hi (by decide) (by decide +kernel) ?_
  refine law_P (pc := 2168) (idx := 196) (As := [.int (xs (8 * i + 1)), .int (xs (8 * i + 2))]) (w := some (.int v)) (vs := [.int v]) C hl.1 I q1 (by decide +kernel) lc_L_196 mo_P_turned ⟨Nat.le_of_ble_eq_true rfl, Nat.le_of_ble_eq_true rfl⟩ (Nat.le_of_ble_eq_true rfl) (by show _ ≤ 600000; omega) (by show _ ≤ 7302250; omega) (fun _ => rfl) (fun _ => rfl) fun H1 I1 => ?_
  refine lv_aload_n (x := s.heap.size + 51) C.1.1 C.1.2.1 (by decide +kernel : decode code 2171 = .ok (.aload_n 2, 1)) rfl (lv_at hl 1 rfl) ?_
  refine law_arg (pc := 2172) 1 C hL I1.2.2.2.2 hl hi (by decide) (by decide +kernel) ?_
  refine law_arg (pc := 2177) 2 C hL I1.2.2.2.2 hl hi (by decide) (by decide +kernel) ?_
  refine law_R (pc := 2182) (idx := 199) (As := [.int (xs (8 * i + 1)), .int (xs (8 * i + 2))]) (rest := [.int v]) (w := some (.int v)) (vs := [.int v, .int v]) C hl.1 I1 q2 (by decide +kernel) lc_L_199 mo_R_turned ⟨Nat.le_of_ble_eq_true rfl, Nat.le_of_ble_eq_true rfl⟩ (Nat.le_of_ble_eq_true rfl) (Nat.le_of_ble_eq_true rfl) (by show _ ≤ 600000; omega) (by show _ ≤ 7302250; omega) (fun _ => rfl) (fun _ => rfl) fun H2 I2 => ?_
  refine lv_icmp_eq (tgt := 2213) C.1.1 C.1.2.1 (by decide +kernel : decode code 2185 = .ok (.if_icmp .eq 28, 3)) (by decide) (fun _ => ?_) (fun z => absurd rfl z)
  exact W.widen (by omega) (by omega) (kk _ _ _ _ _ I2 R1 hw1)
set_option maxRecDepth 100000 in
set_option maxHeartbeats 4000000 in
theorem law_c44 (C : Lx G p s m meth c b L xs) (hL : L ≤ 4096) (hl : lv_has ls 4 [(3, .int (nj (8 * i))), (2, .ref (s.heap.size + 51)), (1, .ref s.heap.size), (0, .ref b)]) (hi : 8 * i + 8 ≤ L) (I : LJ G s pm rm H) (R : Rel nc w pm rm) (hb : w + 537600 < 2147483647) (hc : cells + 158 ≤ 600000) (hz : slots + 1300 ≤ 7302250) (kk : ∀ (nc1 w1 : Nat) (pm1 rm1 : Mem) (H1 : Heap), LJ G s pm1 rm1 H1 → Rel nc1 w1 pm1 rm1 → w1 ≤ w + 537600 → WL p l e s m below meth c b H1 (cells + 158) (slots + 1300) Q ls 2213 []) : WL p l e s m below meth c b H cells slots Q ls 2190 [] := by
  obtain ⟨v, p1, r1, nc1, w1, e1, e2, R1, hw1, hc1, hs1⟩ := s_count R hb (xs (8 * i + 1)) (fun v r' e => (R_count_run I.2.1.1 e).2.1.1.trans I.2.1.1.1.1.symm)
  have q1 := P_count_run I.2.2.1 e1
  have q2 := R_count_run I.2.1.1 e2
  refine lv_aload_n (x := s.heap.size) C.1.1 C.1.2.1 (by decide +kernel : decode code 2190 = .ok (.aload_n 1, 1)) rfl (lv_at hl 2 rfl) ?_
  refine law_arg (pc := 2191) 1 C hL I.2.2.2.2 hl hi (by decide) (by decide +kernel) ?_
  refine law_P (pc := 2196) (idx := 200) (As := [.int (xs (8 * i + 1))]) (w := some (.int v)) (vs := [.int v]) C hl.1 I q1 (by decide +kernel) lc_L_200 mo_P_count ⟨Nat.le_of_ble_eq_true rfl, Nat.le_of_ble_eq_true rfl⟩ (Nat.le_of_ble_eq_true rfl) (by show _ ≤ 600000; omega) (by show _ ≤ 7302250; omega) (fun _ => rfl) (fun _ => rfl) fun H1 I1 => ?_
  refine lv_aload_n (x := s.heap.size + 51) C.1.1 C.1.2.1 (by decide +kernel : decode code 2199 = .ok (.aload_n 2, 1)) rfl (lv_at hl 1 rfl) ?_
  refine law_arg (pc := 2200) 1 C hL I1.2.2.2.2 hl hi (by decide) (by decide +kernel) ?_
  refine law_R (pc := 2205) (idx := 203) (As := [.int (xs (8 * i + 1))]) (rest := [.int v]) (w := some (.int v)) (vs := [.int v, .int v]) C hl.1 I1 q2 (by decide +kernel) lc_L_203 mo_R_count ⟨Nat.le_of_ble_eq_true rfl, Nat.le_of_ble_eq_true rfl⟩ (Nat.le_of_ble_eq_true rfl) (Nat.le_of_ble_eq_true rfl) (by show _ ≤ 600000; omega) (by show _ ≤ 7302250; omega) (fun _ => rfl) (fun _ => rfl) fun H2 I2 => ?_
  refine lv_icmp_eq (tgt := 2213) C.1.1 C.1.2.1 (by decide +kernel : decode code 2208 = .ok (.if_icmp .eq 5, 3)) (by decide) (fun _ => ?_) (fun z => absurd rfl z)
  exact W.widen (by omega) (by omega) (kk _ _ _ _ _ I2 R1 hw1)
end Cs
