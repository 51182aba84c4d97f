/-! Layer C: the tokens of both sides -/
/-- a word as both sides have it -/
def Nm2 (a b : Int64) : Prop := ∃ (f : Nat → Nat) (n : Nat), Lt f n ∧ n ≤ 8 ∧ a = nl (cdN 32 f n) ∧ b = nl (cdN 27 f n)
theorem Nm2_eq {a b a' b' : Int64} (h : Nm2 a b) (h' : Nm2 a' b') : (a = a') = (b = b') := by
  obtain ⟨f, n, h1, h2, rfl, rfl⟩ := h
  obtain ⟨f', n', h1', h2', rfl, rfl⟩ := h'
  have c1 := cdN_8 h1 h2
  have c2 := cdN_8 h1' h2'
  rw [nl_inj (by omega) (by omega), nl_inj (by omega) (by omega)]
  exact cdN_both h1 h1'
def Toks (p r : Mem) (N : Nat) (kd pl : Nat → Nat) : Prop := 1 ≤ N ∧ N ≤ 501 ∧ (N = 501 ∨ kd (N - 1) ≤ 1) ∧ (∀ i, i + 1 < N → 2 ≤ kd i ∧ pl i < pl (i + 1)) ∧
  ∀ i, i < N → kd i < 60 ∧ pl i ≤ 2000 ∧ aI p 18 i = nj (kd i) ∧ aI r 3 i = nj (kM (kd i)) ∧ aI p 19 i = nj (pl i) ∧ aI r 4 i = nj (pl i) ∧
    (kd i = 2 → Nm2 (aL p 20 i) (aL r 6 i)) ∧ (kd i = 3 → ∃ v, v ≤ 9999 ∧ Int64.toInt32 (aL p 20 i) = nj v ∧ aI r 5 i = nj v)
theorem cdD_e {f : Nat → Nat} : ∀ k, cdD f k = nj (cdN 10 f k)
  | 0 => rfl
  | k + 1 => by
    show cdD f k * 10 + nj (f k) = nj (cdN 10 f k * 10 + f k)
    rw [cdD_e k, show (10 : Int32) = nj 10 from rfl, nj_mul, nj_add]
theorem cdN_10 {f : Nat → Nat} : ∀ k, (∀ i, i < k → f i ≤ 9) → cdN 10 f k < 10 ^ k
  | 0, _ => by
    show 0 < 1
    omega
  | k + 1, h => by
    have ih := cdN_10 k (fun i hi => h i (by omega))
    have h1 := h k (by omega)
    show cdN 10 f k * 10 + f k < 10 ^ (k + 1)
    rw [Nat.pow_succ]
    omega
theorem wkS_c {wd : Nat → Int64} {x : Int64} : ∀ d i, wkS wd x d i = 2 ∨ 20 ≤ wkS wd x d i
  | 0, i => Or.inl rfl
  | d + 1, i => by
    have ih := wkS_c (wd := wd) (x := x) d (i + 1)
    show (if wd i = x then 20 + i else wkS wd x d (i + 1)) = 2 ∨ 20 ≤ (if wd i = x then 20 + i else wkS wd x d (i + 1))
    split <;> omega
theorem sgK_23 : ∀ b, b < 256 → ∀ q : Bool, sgK b q ≠ 2 ∧ sgK b q ≠ 3 := by decide +kernel
theorem tkK_2 {by' : Nat → Nat} {n j : Nat} {wd : Nat → Int64} (hb : by' j < 256) (h : tkK by' n wd j = 2) : isLt (by' j) = true ∧ ltE by' n j - j ≤ 8 := by
  have h2 := sgK_23 (by' j) hb (eqF by' n j)
  unfold tkK at h
  by_cases z : isLt (by' j) = true
  · rw [if_pos z] at h
    refine ⟨z, ?_⟩
    by_cases w : ltE by' n j - j ≤ 8
    · exact w
    · rw [if_neg w] at h; omega
  · rw [if_neg z] at h
    by_cases y : isDg (by' j) = true
    · rw [if_pos y] at h
      split at h <;> omega
    · rw [if_neg y] at h
      omega
theorem tkK_3 {by' : Nat → Nat} {n j : Nat} {wd : Nat → Int64} (hb : by' j < 256) (h : tkK by' n wd j = 3) : isLt (by' j) = false ∧ isDg (by' j) = true ∧ dgE by' n j - j ≤ 4 := by
  have h2 := sgK_23 (by' j) hb (eqF by' n j)
  unfold tkK at h
  by_cases z : isLt (by' j) = true
  · rw [if_pos z] at h
    have := wkS_c (wd := wd) (x := ltC by' n j) 40 0
    split at h <;> omega
  · rw [if_neg z] at h
    refine ⟨by cases w : isLt (by' j); rfl; exact absurd w z, ?_⟩
    by_cases y : isDg (by' j) = true
    · rw [if_pos y] at h
      refine ⟨y, ?_⟩
      by_cases w : dgE by' n j - j ≤ 4
      · exact w
      · rw [if_neg w] at h; omega
    · rw [if_neg y] at h
      omega
theorem dgE_dg {by' : Nat → Nat} {n j : Nat} : ∀ i, i < dgE by' n j - j → by' (j + i) - 48 ≤ 9 := fun i hi => by
  have h := rnE_run (ok := fun i => isDg (by' i)) (n - j) j (j + i) (by omega) (by unfold dgE at hi; omega)
  have := of_decide_eq_true h
  omega
theorem bkE_ge {by' : Nat → Nat} {n j : Nat} : j ≤ bkE by' n j := (rnE_b (ok := fun i => isBl (by' i)) (n - j) j).1
theorem scN_b {kd : Nat → Nat} : ∀ d k, k ≤ scN kd d k ∧ scN kd d k ≤ k + d ∧ (0 < d → k + 1 ≤ scN kd d k) ∧ (∀ i, k ≤ i → i + 1 < scN kd d k → 2 ≤ kd i) ∧ (scN kd d k = k + d ∨ kd (scN kd d k - 1) ≤ 1)
  | 0, k => ⟨Nat.le_refl _, Nat.le_refl _, (fun h => by omega), (fun i h1 h2 => by have : i + 1 < k := h2; omega), Or.inl rfl⟩
  | d + 1, k => by
    obtain ⟨i1, i2, i3, i4, i5⟩ := scN_b (kd := kd) d (k + 1)
    have e : scN kd (d + 1) k = if kd k ≤ 1 then k + 1 else scN kd d (k + 1) := rfl
    rw [e]
    by_cases z : kd k ≤ 1
    · rw [if_pos z]
      exact ⟨by omega, by omega, fun _ => by omega, fun i h1 h2 => by omega, Or.inr (by rw [show k + 1 - 1 = k by omega]; exact z)⟩
    · rw [if_neg z]
      refine ⟨by omega, by omega, fun _ => by omega, fun i h1 h2 => ?_, by rcases i5 with w | w; exact Or.inl (by omega); exact Or.inr w⟩
      by_cases y : i = k
      · rw [y]; omega
      · exact i4 i (by omega) h2
/-- what both sides scanned is the same -/
theorem toks_e {p r r0 : Mem} {by' : Nat → Nat} {n : Nat} {wd : Nat → Int64} (hb : ∀ i, i < n → by' i < 256) (hn : n ≤ 2000) (h : ∀ i, i < scN (kdT by' n wd) 501 0 → TkP p by' n wd i) (c : CutR r0 r by' n wd) :
    Toks p r (scN (kdT by' n wd) 501 0) (kdT by' n wd) (psT by' n) ∧ ∃ T, mI r 1546 0 = nj T ∧ T ≤ 501 ∧ scN (kdT by' n wd) 501 0 ≤ T ∧ (T < 501 → kdT by' n wd (T - 1) = 0) ∧ ∀ i, i + 1 < T → kdT by' n wd i ≠ 0 := by
  obtain ⟨-, -, -, T, t1, t2, t3, t4, t5, t6⟩ := c
  obtain ⟨s1, s2, s3, s4, s5⟩ := scN_b (kd := kdT by' n wd) 501 0
  generalize hN : scN (kdT by' n wd) 501 0 = N at *
  have hlt : ∀ i, i + 1 < N → psT by' n i < n := fun i hi => by
    have := s4 i (by omega) hi
    by_cases y : psT by' n i < n
    · exact y
    · unfold kdT at this
      rw [if_neg y] at this
      omega
  have k0 : ∀ i, psT by' n i < n → 1 ≤ kdT by' n wd i ∧ kdT by' n wd i < 60 := fun i y => by
    unfold kdT
    rw [if_pos y]
    have := tkK_b (n := n) (wd := wd) (hb _ y)
    omega
  have NT : N ≤ T := by
    by_cases z : N ≤ T
    · exact z
    · rcases t6 with w | w
      · omega
      · have := hlt (T - 1) (by omega)
        omega
  refine ⟨⟨by omega, by omega, by omega, fun i hi => ⟨s4 i (by omega) hi, ?_⟩, fun i hi => ?_⟩, T, t3, t2, NT, fun w => ?_, fun i hi => ?_⟩
  · have := (tkE_n (by' := by') (hlt i hi)).1
    have e : psT by' n (i + 1) = bkE by' n (tkE by' n (psT by' n i)) := rfl
    have := bkE_ge (by' := by') (n := n) (j := tkE by' n (psT by' n i))
    omega
  · obtain ⟨q1, q2, q3⟩ := h i hi
    obtain ⟨⟨u1, u2, u3⟩, u4⟩ := t4 i (by omega)
    refine ⟨?_, by omega, q1, u1, q2, u2, fun z => ?_, fun z => ?_⟩
    · by_cases y : psT by' n i < n
      · exact (k0 i y).2
      · unfold kdT; rw [if_neg y]; omega
    · have y : psT by' n i < n := by
        by_cases y : psT by' n i < n
        · exact y
        · unfold kdT at z; rw [if_neg y] at z; omega
      unfold kdT at z
      rw [if_pos y] at z
      obtain ⟨a1, a2⟩ := tkK_2 (hb _ y) z
      refine ⟨_, _, ltE_Lt (by' := by') (n := n) (j := psT by' n i), a2, ?_, ?_⟩
      · rw [(q3 y).1 a1]
        unfold ltC
        rw [cd64_e]
      · rw [(u3 y).1 a1, show min (ltE by' n (psT by' n i) - psT by' n i) 8 = ltE by' n (psT by' n i) - psT by' n i by omega]
    · have y : psT by' n i < n := by
        by_cases y : psT by' n i < n
        · exact y
        · unfold kdT at z; rw [if_neg y] at z; omega
      unfold kdT at z
      rw [if_pos y] at z
      obtain ⟨a1, a2, a3⟩ := tkK_3 (hb _ y) z
      refine ⟨cdN 10 (fun q => by' (psT by' n i + q) - 48) (dgE by' n (psT by' n i) - psT by' n i), ?_, ?_, ?_⟩
      · have b1 := cdN_10 (f := fun q => by' (psT by' n i + q) - 48) _ (dgE_dg (by' := by') (n := n) (j := psT by' n i))
        have b2 : 10 ^ (dgE by' n (psT by' n i) - psT by' n i) ≤ 10 ^ 4 := Nat.pow_le_pow_right (by omega) a3
        omega
      · rw [(q3 y).2 a1 a2]
        unfold dgC
        rw [cdD_e]
        exact Int32.toInt32_toInt64 _
      · rw [(u3 y).2 a1 a2, show min (dgE by' n (psT by' n i) - psT by' n i) 4 = dgE by' n (psT by' n i) - psT by' n i by omega, cdD_e]
  · rcases t6 with z | z
    · omega
    · unfold kdT
      rw [if_neg (by omega)]
  · have := k0 i (t5 i hi)
    omega
