/-! Layer D: where both begin -/
def P0x : Option (Unit × Mem) := P_init 0 (nw mZ 12 0 8)
def R0x : Option (Unit × Mem) := R_init 0 (nw mZ 13 0 121)
def mOf (x : Option (Unit × Mem)) : Mem := match x with
  | some r => r.2
  | none => mZ
def P0 : Mem := mOf P0x
def R0 : Mem := mOf R0x
theorem mOf_e {x : Option (Unit × Mem)} (h : x.isSome = true) : x = some ((), mOf x) := by
  cases x with
  | none => cases h
  | some r => rfl
set_option maxRecDepth 1000000 in
set_option maxHeartbeats 4000000 in
theorem P0_is : P0x.isSome = true := by decide +kernel
set_option maxRecDepth 1000000 in
set_option maxHeartbeats 4000000 in
theorem R0_is : R0x.isSome = true := by decide +kernel
theorem P0_e : P_init 0 (nw mZ 12 0 8) = some ((), P0) := mOf_e P0_is
theorem R0_e : R_init 0 (nw mZ 13 0 121) = some ((), R0) := mOf_e R0_is
theorem PL_of {m : Mem} (h : 51 ≤ mC m) (h1 : (P_cells.all fun q => decide (mT m q.1 = q.2.1) && (decide (q.2.1 < 32) || decide (mN m q.1 = q.2.2))) = true) (h2 : (P_refs.all fun q => decide (mR m q.1 q.2.1 = some q.2.2)) = true) : PL m := by
  refine ⟨h, fun i q hq => ?_, fun i q hq => ?_⟩
  · have h3 := List.all_eq_true.mp h1 q (List.mem_of_getElem? hq)
    simp only [Bool.and_eq_true, Bool.or_eq_true, decide_eq_true_eq] at h3
    exact ⟨h3.1, fun z => h3.2.resolve_left (by omega)⟩
  · exact of_decide_eq_true (List.all_eq_true.mp h2 q (List.mem_of_getElem? hq))
theorem RL_of {m : Mem} (h : mC m = 82 ∧ mS m = 90179) (h1 : (R_cells.all fun q => decide (mT m q.1 = q.2.1) && (decide (q.2.1 < 32) || decide (mN m q.1 = q.2.2))) = true) (h2 : (R_refs.all fun q => decide (mR m q.1 q.2.1 = some q.2.2)) = true) : RL m := by
  refine ⟨h, fun i q hq => ?_, fun i q hq => ?_⟩
  · have h3 := List.all_eq_true.mp h1 q (List.mem_of_getElem? hq)
    simp only [Bool.and_eq_true, Bool.or_eq_true, decide_eq_true_eq] at h3
    exact ⟨h3.1, fun z => h3.2.resolve_left (by omega)⟩
  · exact of_decide_eq_true (List.all_eq_true.mp h2 q (List.mem_of_getElem? hq))
theorem mZ_w : Zw 0 mZ := ⟨rfl, fun _ _ _ _ => rfl, rfl, fun _ _ => rfl⟩
theorem mZ_r : Zr mZ := fun _ _ => rfl
theorem dat_c (r : Mem) : (dat r).2.1 = ix (mI r 1554 0) ∧ (dat r).2.2 = ix (mI r 1601 0) := ⟨rfl, rfl⟩
theorem P0_w : Zw 51 P0 := zk_P_init (m := nw mZ 12 0 8) mZ_w.nw () P0 P0_e
theorem P0_ai {a : Nat} (h : a < 12) : aI P0 a = fun _ => 0 := by
  funext j
  exact P0_w.2.1 a j (by omega) (Or.inl (by omega))
set_option maxRecDepth 1000000 in
theorem P0_PL : PL P0 := PL_of (by decide +kernel) (by decide +kernel) (by decide +kernel)
set_option maxRecDepth 1000000 in
theorem R0_RL : RL R0 := RL_of ⟨by decide +kernel, by decide +kernel⟩ (by decide +kernel) (by decide +kernel)
theorem R0_w : ∀ a j, (a ≠ 43 ∨ 4 ≤ j) → aI R0 a j = 0 := rk_R_init (m := nw mZ 13 0 121) mZ_r.nw () R0 R0_e (RR_1600_0 R0_RL)
theorem R0_ai {a : Nat} (h : a ≠ 43) : aI R0 a = fun _ => 0 := by
  funext j
  exact R0_w a j (Or.inl h)
set_option maxRecDepth 1000000 in
theorem P0_12 : ∀ j, j < 4 → aI P0 12 j = 1 := by decide +kernel
set_option maxRecDepth 1000000 in
theorem R0_43 : ∀ j, j < 4 → aI R0 43 j = 1 := by decide +kernel
theorem PR_12 : aI P0 12 = aI R0 43 := by
  funext j
  by_cases h : j < 4
  · rw [P0_12 j h, R0_43 j h]
  · rw [P0_w.2.1 12 j (by omega) (Or.inr (by omega)), R0_w 43 j (Or.inr (by omega))]
set_option maxRecDepth 1000000 in
theorem P0_f : mI P0 384 5 = nj 0 ∧ mI P0 385 5 = nj 0 ∧ mI P0 386 5 = nj 0 ∧ mI P0 771 22 = nj 0 ∧ mI P0 514 13 = nj 0 ∧ mI P0 515 13 = nj 0 ∧ mR P0 1158 25 = none ∧ mI P0 641 16 = nj 0 ∧ mI P0 1415 0 = -1 ∧ mI P0 1157 25 = nj 0 ∧ mS P0 ≤ 20000 := by decide +kernel
set_option maxRecDepth 1000000 in
theorem R0_f : mI R0 1591 0 = nj 0 ∧ mI R0 1592 0 = nj 0 ∧ mI R0 1595 0 = nj 0 ∧ mI R0 1584 0 = nj 0 ∧ mI R0 1601 0 = nj 0 ∧ mI R0 1554 0 = nj 0 ∧ mI R0 1538 0 = nj 0 ∧ mI R0 1553 0 = -1 ∧ mI R0 1612 0 = -1 ∧ mI R0 1622 0 = -1 ∧ mI R0 1627 0 = -1 ∧ mI R0 1651 0 = 0 := by decide +kernel
set_option maxRecDepth 1000000 in
theorem P0_a : (∀ j, j < 12 → aI P0 26 j = 0) ∧ (∀ j, j < 16 → aI P0 42 j = 0) ∧ (∀ j, j < 16 → aI P0 43 j = 0) ∧ (∀ j, j < 16 → aI P0 44 j = -1) := by decide +kernel
set_option maxRecDepth 1000000 in
set_option maxHeartbeats 4000000 in
theorem PR_ky : KyOk (aL P0 21) (aL R0 7) := by
  unfold KyOk
  decide +kernel
theorem D0 : (dat R0).2.1 = 0 ∧ (dat R0).2.2 = 0 := by
  have h := R0_f
  rw [(dat_c R0).1, (dat_c R0).2, h.2.2.2.2.2.1, h.2.2.2.2.1, ix_nj (by omega)]
  exact ⟨rfl, rfl⟩
theorem Rel_0 : Rel 0 0 P0 R0 := by
  obtain ⟨d1, d2⟩ := D0
  obtain ⟨p1, p2, p3, p4, p5, p6, p7, p8, p9, p10, p11⟩ := P0_f
  obtain ⟨r1, r2, r3, r4, r5, r6, r7, r8, r9, r10, r11, r12⟩ := R0_f
  obtain ⟨a1, a2, a3, a4⟩ := P0_a
  refine ⟨⟨⟨⟨P0_PL.1, fun a ha => P0_w.2.2.2 a (by rw [P0_w.1] at ha; exact ha)⟩, Nat.le_of_eq R0_RL.1.1.symm, ?_, ?_, ?_, ?_, by decide, p4, r4, ?_⟩, ?_, P0_PL, ?_, Or.inl r9, r10⟩, Or.inl r11, ⟨⟨0, by decide, p8, r7, fun i hi => absurd hi (Nat.not_lt_zero i)⟩, ?_, PR_ky, fun k hk => absurd hk (Nat.not_lt_zero k), p9.trans r8.symm⟩, p10⟩
  · exact ⟨by omega, by omega, fun k hk => absurd hk (by omega), fun k l _ hl => absurd hl (by omega), fun k l hk => absurd hk (by omega)⟩
  · exact fun i hi => absurd hi (by omega)
  · rw [d2]; exact r5
  · rw [d1]; exact r6
  · refine ⟨fun _ => 0, fun _ => 0, fun _ => 0, fun _ => 0, fun _ => 0, [], ⟨⟨by rw [d2]; exact p5, fun i hi => absurd hi (by omega)⟩, ⟨by rw [d1]; exact p6, fun k hk => absurd hk (by omega), fun k l hk => absurd hk (by omega), fun k hk => absurd hk (by omega)⟩, ⟨d1.symm, fun i k h => by simp at h, fun k => by simp [d1], List.Pairwise.nil⟩, fun k j hk => absurd hk (by omega), ⟨fun k j hk => absurd hk (by omega), fun k j k' j' hk => absurd hk (by omega)⟩⟩, ⟨fun j hj _ _ _ _ => a1 j hj, fun k hk => absurd hk (by omega), fun k j hk => absurd hk (by omega), p7⟩⟩
  · refine ⟨0, 0, 0, by decide, by decide, by decide, p1, r1, p2, r2, p3, r3, ?_, ?_, ?_, ?_, ?_, ?_, PR_12, fun j hj => absurd hj (Nat.not_lt_zero j), fun j hj => absurd hj (Nat.not_lt_zero j), fun j hj => absurd hj (Nat.not_lt_zero j), fun j hj => ⟨1, by decide, R0_43 j hj⟩, fun j hj => absurd hj (Nat.not_lt_zero j), fun j hj => ⟨0, by decide, ?_⟩⟩
    · rw [P0_ai (by decide), R0_ai (by decide)]
    · rw [P0_ai (by decide), R0_ai (by decide)]
    · rw [P0_ai (by decide), R0_ai (by decide)]
    · rw [P0_ai (by decide), R0_ai (by decide)]
    · rw [P0_ai (by decide), R0_ai (by decide)]
    · rw [P0_ai (by decide), R0_ai (by decide)]
    · rw [R0_ai (by decide)]
      rfl
  · exact fun k j hk => absurd hk (by omega)
  · refine ⟨fun i hi => ⟨0, by decide, a2 i hi, by rw [R0_ai (by decide)]; rfl⟩, fun a b ha hb => ?_, Or.inl ⟨r12, a4⟩, ?_⟩
    · rw [R0_ai (a := 74) (by decide), a3 a ha]
      constructor
      · have : bI 0 b = false := by simp [bI]
        simp [this]
      · rfl
    · exact ⟨(PC_44 P0_PL).1, (PC_44 P0_PL).2, (PC_47 P0_PL).2, (PC_48 P0_PL).2, (PC_49 P0_PL).2, (PC_50 P0_PL).2⟩
set_option maxRecDepth 1000000 in
/-- no reference of the class's first objects leads past them -/
theorem P0_in : ∀ a, a < 51 → ∀ k, k < 32 → ((mR P0 (128 * (mT P0 a - 1) + k) a).all fun b => decide (b < 51)) = true := by decide +kernel
