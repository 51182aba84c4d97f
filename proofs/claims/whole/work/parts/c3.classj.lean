/-! Layer C: a class, both sides -/
section Ck
variable {N : Nat} {kd pl : Nat → Nat} {x a i l c : Nat} {p r : Mem} {t nm : Nat}
theorem class_j (h : Pi N kd pl x p r t nm l c) (ht : 4 ≤ t) (hi : i < 750) (h256 : mI p 256 a = nj 34) (ha : mT p a = 3) (h259 : mI p 259 a = 0) (h17 : aI r 17 i = 0) :
    (∃ v nm1 p1 r1 t1 p' r' t' nm' L, P_Parser_takeBody (some a) p = some (1, p') ∧ R_tellClass (nj i) r = some ((), r') ∧ MgC N kd pl x a i l c p1 r1 t1 nm1 p' r' t' nm' L ∧ mC p1 = mC p ∧ mR p1 263 a = mR p 263 a ∧ mI p1 260 a = mI p 260 a ∧ mI p1 261 a = mI p 261 a ∧ Sp 1 a i l c p r p' r' t t' nm nm' ∧ v < nm1 ∧ v < 600 ∧ nm1 ≤ nm' ∧ aI r' 16 i = nj v ∧ mI p' 258 a = (if v < 60 then nj v else -1) ∧ Tb a i p' r' ∧ (∀ f, 256 ≤ f → f ≤ 268 → f ≠ 258 → f ≠ 259 → f ≠ 260 → f ≠ 261 → f ≠ 262 → f ≠ 263 → mI p' f a = mI p f a) ∧ (∀ b, b < mC p → mT p' b = mT p b) ∧ (∀ y j, 15 ≤ y → y ≤ 32 → (y < 16 ∨ 22 < y) → aI r' y j = aI r y j)) ∨
    (∃ p' r', P_Parser_takeBody (some a) p = some (0, p') ∧ R_tellClass (nj i) r = some ((), r') ∧ Bi 0 a i l c t nm p r p' r') := by
  have la : a < mC p := h.T.lt (by rw [ha]; decide)
  obtain ⟨n, hn⟩ : ∃ n, FU = n + 1 := ⟨FU - 1, by unfold FU; omega⟩
  have hn' : n = 99999 := by unfold FU at hn; omega
  unfold P_Parser_takeBody R_tellClass
  rw [gs_s, gt_t ha, h256, if_neg (show ¬ nj 34 = 32 by decide), if_neg (show ¬ nj 34 = 33 by decide), if_pos (show nj 34 = 34 from rfl)]
  rcases iname_j (K := fun m8 => bn (R_must 30 m8) fun _ m10 => R_tellClass_20 FU (nj i) 0 1 m10) h ha hi with ⟨v, nm1, p1, r1, b1, b2, b3, b4, b5, b6, b7, b8, b9, b10, b11, b12⟩ | ⟨p1, r1, b1, b2, b3⟩
  · rw [b1, bn_s, if_neg (show ¬ (1 : Int32) = 0 by decide), b2]
    have ha1 : mT p1 a = 3 := by rw [b10 a la]; exact ha
    have ec1 : mC p1 = mC p := by have := b4.2.2.1; have := b4.2.2.2.1; omega
    unfold P_Parser_takeTasks
    rcases kind_i (a := a) (i := i) b3 48 (by omega) (y := 30) rfl (by omega) with ⟨z, p2, r2, d1, d2, d3, d4, d5, d6, d7, d8, d9, d10⟩ | ⟨p2, r2, d1, d2, d3⟩
    · have d1' : P_Parser_takeKind 48 p1 = _ := d1
      have ec2 : mC p2 = mC p := by rw [d10, k_mC_sI]; exact ec1
      have ha2 : mT p2 a = 3 := by rw [d8]; exact ha1
      have hS2 := Sp.trans (n := 0) (n' := 0) b4 d4 (Nat.le_refl _) (Nat.le_refl _)
      have e13 : P_Parser_takeTasks_13 FU (some a) 0 p2 = P_Parser_takeTasks_54 (fun z0 z1 z2 => P_Parser_takeTasks_13 n z0 z1 z2) (some a) (nj 0) p2 := by
        rw [hn, P_Parser_takeTasks_13.eq_2, if_neg (show ¬ (8 : Int32) < 0 by decide), if_pos (show (0 : Int32) ≤ 0 by decide)]
        unfold P_Parser_takeTasks_41
        rw [if_pos (show (0 : Int32) ≤ 0 by decide)]
        rfl
      rw [d1', bn_s, if_neg (show ¬ (1 : Int32) = 0 by decide), e13, d2, bn_s]
      have hB : Tb a i p2 r2 := fun _ => by
        rw [d5 259 (by omega), (b9 259 (by omega) (by omega)).1 (by omega), h259, d9, b11 17 i (by omega) (by omega) (by omega), h17]
        exact ⟨rfl, 0, by omega, rfl⟩
      rcases tasks_j (N := N) (kd := kd) (pl := pl) (x := x) (a := a) (l := l) (c := c) (nm := nm1) hi 8 0 p2 r2 (t + 1 + 1) n FU (by omega) d3 ha2 hB (by omega) (by omega) with ⟨p3, r3, t3, f1, f2, f3, f4, f5, f6, f7, f8, f9, f10⟩ | ⟨p3, r3, f1, f2, f3⟩
      · have f2' : R_tellClass_20 FU (nj i) 0 1 r2 = _ := f2
        rw [f1, bn_s, if_neg (show ¬ (1 : Int32) = 0 by decide), f2']
        have ec3 : mC p3 = mC p := by have := f4.2.2.1; have := f4.2.2.2.1; omega
        have ha3 : mT p3 a = 3 := by rw [f9]; exact ha2
        have hS3 := Sp.trans (n := 0) (n' := 0) hS2 f4 (Nat.le_refl _) (Nat.le_refl _)
        have ht3 : t + 1 + 1 ≤ t3 := f4.2.2.2.2.2.1
        rcases marg_j (a := a) (i := i) f3 (by omega) hi ha3 with ⟨p4, r4, t4, nm4, L, g1, g2, g3⟩ | ⟨p4, r4, g1, g2, g3⟩
        · left
          have g3' := g3
          obtain ⟨q1, q2, q3, q4, q5, q6, q7, q8, q9, q10, q11, q12, q13⟩ := g3'
          rw [g1, bn_s, if_neg (show ¬ (1 : Int32) = 0 by decide), g2]
          refine ⟨v, nm1, p3, r3, t3, p4, r4, t4, nm4, L, rfl, rfl, g3, ec3, by rw [f8, d7]; exact (b9 263 (by omega) (by omega)).2.2, by rw [f6 260 (by omega) (by omega) (by omega), d5 260 (by omega)]; exact (b9 260 (by omega) (by omega)).1 (by omega), by rw [f6 261 (by omega) (by omega) (by omega), d5 261 (by omega)]; exact (b9 261 (by omega) (by omega)).1 (by omega), Sp.trans (n := 0) (n' := 1) hS3 q2 (Nat.le_refl _) (Nat.le_refl _), b5, b6, q2.2.2.2.2.2.2.1, by rw [q13 16 i (by omega) (by omega) (by omega), f10 16 i (by omega), d9]; exact b7, ?_, fun w => ?_, fun f w1 w2 w3 w4 w5 w6 w7 w8 => by rw [(q11 f w1 w2 w5 w6 w7 w8).1, f6 f w1 w2 w4, d5 f (by omega), (b9 f w1 w2).1 w3], fun b hb => by rw [q12 b (by omega), f9, d8, b10 b hb], fun y j y1 y2 y3 => by rw [q13 y j y1 y2 (by omega), f10 y j (by omega), d9, b11 y j y1 (by omega) (by omega)]⟩
          · rw [(q11 258 (by omega) (by omega) (by omega) (by omega) (by omega) (by omega)).1, f6 258 (by omega) (by omega) (by omega), d5 258 (by omega)]; exact b8
          · rw [(q11 259 (by omega) (by omega) (by omega) (by omega) (by omega) (by omega)).1, q13 17 i (by omega) (by omega) (by omega)]
            exact f5 (q2.2.2.2.2.2.2.2.2.2 w)
        · right
          rw [g1, bn_s, if_pos rfl, g2]
          exact ⟨p4, r4, rfl, rfl, Sp.bi (n := 0) (n' := 0) hS3 g3 (Nat.le_refl _) (Nat.le_refl _)⟩
      · right
        have f2' : R_tellClass_20 FU (nj i) 0 1 r2 = _ := f2
        rw [f1, bn_s, if_pos rfl, f2']
        exact ⟨p3, r3, rfl, rfl, Sp.bi (n := 0) (n' := 0) hS2 f3 (Nat.le_refl _) (Nat.le_refl _)⟩
    · right
      have d1' : P_Parser_takeKind 48 p1 = _ := d1
      obtain ⟨r'', g1, g2⟩ := d3.go (F := fun m => R_tellClass_20 FU (nj i) 0 1 m) b3.p82 (fun d q hq h82 => by rw [hn]; exact e20_f hq hi h82)
      rw [d1', bn_s, if_pos rfl, bn_s, if_pos rfl, d2, bn_s]
      exact ⟨p2, r'', rfl, g1, Sp.bi (n := 0) (n' := 0) b4 g2 (Nat.le_refl _) (Nat.le_refl _)⟩
  · right
    obtain ⟨r'', g1, g2⟩ := b3.go (F := fun m8 => bn (R_must 30 m8) fun _ m10 => R_tellClass_20 FU (nj i) 0 1 m10) h.p82 (fun d q hq h82 => by
      rw [must_f hq, bn_s, hn]
      exact e20_f hq hi h82)
    rw [b1, bn_s, if_pos rfl, b2]
    exact ⟨p1, r'', rfl, g1, g2⟩
end Ck
