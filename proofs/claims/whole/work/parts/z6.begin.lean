/-! Layer D: the law from its entry -/
theorem mZ_W (G : GG) {α : Nat → Nat} {H : Heap} (h : ∀ j, α j = H.size + j) : MW G α mZ H := ⟨fun a ha => absurd ha (Nat.not_lt_zero a), fun j => by show α (0 + j) = _; rw [Nat.zero_add, h], fun a _ => ⟨rfl, fun f => ⟨rfl, rfl, rfl⟩, fun j => ⟨rfl, rfl, rfl⟩⟩⟩
theorem P0_sz : ∀ a, a < 51 → mT P0 a < 32 → q_sz (mT P0 a - 1) ≤ 32 := by decide +kernel
theorem enM_P {G : GG} {b a : Nat} (ha : a < 51) : enM G (fun i => b + i) P0 a = enM G (aP b) P0 a := by
  refine enM_al (fun h1 k hk _ q hq => ?_) (fun _ j q hq => ?_)
  · have h2 := P0_sz a ha h1
    have h3 := P0_in a ha k (by omega)
    rw [hq] at h3
    have h4 : q < 51 := by simpa using h3
    exact (if_pos h4 : aP b q = b + q).symm
  · rw [P0_w.2.2.1] at hq
    cases hq
theorem wid_c {a b c d : Nat} (h1 : a = 51) (h2 : b = 1) (h3 : c = 82) (h4 : d = 1) : 0 + 1 + (a - b) + 1 + (c - d) ≤ 133 + 158 * 0 := by omega
theorem wid_s {x a c d : Nat} (h1 : a = 8) (h0 : a ≤ x) (h2 : c = 90179) (h3 : d = 121) : 0 + 8 + (x - a) + 121 + (c - d) ≤ x + 90179 + 1300 * 0 := by omega
section Be
variable {p : Program} {e : Env} {s : State} {m : MethodId} {below : List Frame} {meth : Method} {c : Code} {b L : Nat} {xs : Nat → Int32} {G : GG}
set_option maxRecDepth 100000 in
set_option maxHeartbeats 4000000 in
theorem law_begin (l : Launch) (hL : L ≤ 4096) (C : Lx G p s m meth c b L xs) : W p l e room_1 s m #[Value.ref b] below meth c s.heap [] 0 0 (lw_Z below #[Value.ref b] s) (entryFrame m ([Value.ref b] : List Value).toArray 4) := by
  have hx := C.1.1
  have hcode := C.1.2.1
  have hl := lv_entry ([.ref b]) (n := 4) (Nat.le_of_ble_eq_true rfl)
  rw [lg_entry_eq]
  generalize (lg_sl ([.ref b]) ++ List.replicate (4 - (lg_sl ([.ref b])).length) Slot.unset).toArray = ls at hl ⊢
  have hl : lv_has ls 4 [(0, .ref b)] := hl
  have pC : mC P0 = 51 := P0_w.1
  have pS : mS P0 ≤ 20000 := P0_f.2.2.2.2.2.2.2.2.2.2
  have rC : mC R0 = 82 := R0_RL.1.1
  have rS : mS R0 = 90179 := R0_RL.1.2
  have c1 : mC (nw mZ 12 0 8) = 1 := rfl
  have c2 : mS (nw mZ 12 0 8) = 8 := rfl
  have c3 : mC (nw mZ 13 0 121) = 1 := rfl
  have c4 : mS (nw mZ 13 0 121) = 121 := rfl
  have j1 : ∀ i j, (fun i : Nat => s.heap.size + i) i = (fun i : Nat => s.heap.size + i) j → i = j := fun i j h => Nat.add_left_cancel h
  have g1 : ∀ i, s.heap.size ≤ (fun i : Nat => s.heap.size + i) i := fun i => Nat.le_add_right _ _
  have j2 : ∀ i j, (fun i : Nat => s.heap.size + 51 + i) i = (fun i : Nat => s.heap.size + 51 + i) j → i = j := fun i j h => Nat.add_left_cancel h
  have g2 : ∀ i, s.heap.size ≤ (fun i : Nat => s.heap.size + 51 + i) i := fun i => by show s.heap.size ≤ s.heap.size + 51 + i; omega
  have S : va_S (fun q => s.heap.size ≤ q) s.heap s.heap [] := va_S.rf
  refine law_new (l := l) (idx := 7) (ci := 11) (N := 8) (pc := 0) C g1 (mZ_W G (fun j => rfl)) S (by decide +kernel) ln_L_7 (by show 0 + 1 ≤ 600000; omega) (by show 0 + 8 ≤ 7302250; omega) fun H1 Y1 z1 o1 S1 => ?_
  refine lv_dup hx hcode (by decide +kernel : decode code 3 = .ok (.dup, 1)) rfl ?_
  have r1 : Run k_P_init 0 [(0, .ref 0)] [] (nw mZ 12 0 8) none P0 := P_init_run rfl P0_e
  refine law_i (idx := 9) (pc := 4) (a := 0) (mm := nw mZ 12 0 8) (m1 := P0) (w := none) C j1 g1 Y1 S1 hl.1 (by decide +kernel) lc_L_9 mo_P_init ⟨Nat.le_of_ble_eq_true rfl, Nat.le_of_ble_eq_true rfl⟩ (Nat.le_of_ble_eq_true rfl) (Nat.le_of_ble_eq_true rfl) r1 (by show _ ≤ 600000; omega) (by show _ ≤ 7302250; omega) fun H2 Y2 z2 k2 S2 => ?_
  have q2 : H2.size = s.heap.size + 51 := by
    have := Y2.2.1 0
    rw [pC] at this
    exact this.symm
  have r3 := r1.2.1
  show WL p l e s m below meth c b H2 _ _ _ ls 7 [.ref s.heap.size]
  refine lv_astore_n (lv' := [(1, .ref s.heap.size), (0, .ref b)]) hx hcode (by decide +kernel : decode code 7 = .ok (.astore_n 1, 1)) rfl hl (by decide) rfl (fun ls hl => ?_)
  refine law_new (α := fun i => s.heap.size + 51 + i) (mm := mZ) (idx := 10) (ci := 12) (N := 121) (pc := 8) C g2 (mZ_W G (fun j => by rw [q2])) S2 (by decide +kernel) ln_L_10 (by show _ ≤ 600000; omega) (by show _ ≤ 7302250; omega) fun H3 Y3 z3 o3 S3 => ?_
  refine lv_dup hx hcode (by decide +kernel : decode code 11 = .ok (.dup, 1)) rfl ?_
  have r2 : Run k_R_init 0 [(0, .ref 0)] [] (nw mZ 13 0 121) none R0 := R_init_run rfl R0_e
  refine law_i (α := fun i => s.heap.size + 51 + i) (idx := 12) (pc := 12) (a := 0) (mm := nw mZ 13 0 121) (m1 := R0) (w := none) C j2 g2 Y3 S3 hl.1 (by decide +kernel) lc_L_12 mo_R_init ⟨Nat.le_of_ble_eq_true rfl, Nat.le_of_ble_eq_true rfl⟩ (Nat.le_of_ble_eq_true rfl) (Nat.le_of_ble_eq_true rfl) r2 (by show _ ≤ 600000; omega) (by show _ ≤ 7302250; omega) fun H4 Y4 z4 k4 S4 => ?_
  have q4 : H4.size = s.heap.size + 133 := by
    have := Y4.2.1 0
    rw [rC] at this
    exact this.symm
  show WL p l e s m below meth c b H4 _ _ _ ls 15 [.ref (s.heap.size + 51)]
  refine lv_astore_n (lv' := [(2, .ref (s.heap.size + 51)), (1, .ref s.heap.size), (0, .ref b)]) hx hcode (by decide +kernel : decode code 15 = .ok (.astore_n 2, 1)) rfl hl (by decide) rfl (fun ls hl => ?_)
  refine lv_iconst (v := 0) hx hcode (by decide +kernel : decode code 16 = .ok (.iconst 0, 1)) (by decide) ?_
  refine lv_istore_n (lv' := [(3, .int (nj (8 * 0))), (2, .ref (s.heap.size + 51)), (1, .ref s.heap.size), (0, .ref b)]) hx hcode (by decide +kernel : decode code 17 = .ok (.istore_n 3, 1)) rfl hl (by decide) rfl (fun ls hl => ?_)
  have yP : MW G (aP s.heap.size) P0 H4 := by
    refine ⟨fun a ha => ?_, fun j => ?_, Y2.2.2⟩
    · rw [pC] at ha
      have w := Y2.1 a (by omega)
      have w1 : s.heap.size + a < H2.size := w.lt
      have e1 : aP s.heap.size a = s.heap.size + a := if_pos ha
      rw [enM_P ha] at w
      rw [e1]
      have w2 : va_at G.1 q_cl (s.heap.size + a, enM G (aP s.heap.size) P0 a) H2 := w
      refine (w2.kept (o3 _ w1)).kept (k4 _ (by omega) (fun ⟨i, ei⟩ => ?_))
      have ei : s.heap.size + a = s.heap.size + 51 + i := ei
      omega
    · rw [pC, q4]
      unfold aP
      rw [if_neg (by omega)]
      omega
  have yR : QW G s.heap.size R0 H4 := ⟨R0_RL, fun a ha => Y4.1 a (by rw [rC]; exact ha), fun a ha => Y4.2.2 a (by rw [rC]; exact ha)⟩
  exact W.widen (wid_c pC c1 rC c3) (wid_s c2 r3 rS c4) (law_loop C hL (mS P0 + 90179) (Nat.le_trans (Nat.add_le_add_right pS 90179) (by decide)) 513 0 0 0 P0 R0 H4 ls (by decide) (by decide) (by decide) hl ⟨yP, yR, P0_PL, Nat.le_of_eq q4.symm, S4⟩ Rel_0)
end Be
/-- THE LAW, from its entry -/
theorem whole_start {p : Program} {e : Env} {s : State} {m : MethodId} {below : List Frame} {meth : Method} {c : Code} (l : Launch) {b L : Nat} {xs : Nat → Int32} (hL : L ≤ 4096) (C0 : lw_At p s m meth c b L xs) : W p l e room_1 s m #[Value.ref b] below meth c s.heap [] 0 0 (lw_Z below #[Value.ref b] s) (entryFrame m ([Value.ref b] : List Value).toArray 4) := by
  obtain ⟨G, C⟩ := known C0
  exact law_begin l hL C
