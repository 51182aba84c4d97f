/-! Layer C: signs that wait, codes that come to one number; both sides within an E -/
def eW (v : Nat) : Nat := if v = 14 then 14 else rk v * 100 + v
def enN (kv : Nat × Nat) : Int32 := encC (nj kv.1) (nj kv.2)
theorem eW_op {v : Nat} (h : opV v) : eW v < 700 ∧ eW v % 100 = v ∧ (v ≠ 14 → 500 ≤ eW v) ∧ (v = 14 → eW v = 14) ∧ ((v = 8 ∨ v = 9) → 600 ≤ eW v) ∧ ((v = 6 ∨ v = 7) → eW v < 600) := by
  rcases h with rfl | rfl | rfl | rfl | rfl <;> decide
theorem enN_op {v : Nat} (h : opV v) (h14 : v ≠ 14) : enN (v - 4, 0) = nj (v * 10000) := by
  rcases h with rfl | rfl | rfl | rfl | rfl
  · decide
  · decide
  · decide
  · decide
  · exact absurd rfl h14
theorem stE_V : ∀ (V : List Nat), OpV V → (∀ v, v ∈ V → v ≠ 14) → stE (V.map eW) = (cdV V).map enN
  | [], _, _ => rfl
  | v :: V, h, h14 => by
    have ih := stE_V V (fun w hw => h w (by simp [hw])) (fun w hw => h14 w (by simp [hw]))
    have e1 : stE ((v :: V).map eW) = nj (eW v % 100 * 10000) :: stE (V.map eW) := rfl
    have e2 : (cdV (v :: V)).map enN = enN (v - 4, 0) :: (cdV V).map enN := rfl
    rw [e1, e2, ih, (eW_op (h v (by simp))).2.1, enN_op (h v (by simp)) (h14 v (by simp))]
def Bok (B : List Nat) : Prop := ∀ w, w ∈ B → w < 500
theorem stO_B {lim : Nat} (h5 : 5 ≤ lim) : ∀ B, Bok B → stO lim B = ([], B)
  | [], _ => rfl
  | b :: B, h => by
    unfold stO
    rw [if_pos (by have := h b (by simp); omega)]
theorem stO_pO {s : Bool} {B : List Nat} (hB : Bok B) : ∀ (V : List Nat), OpV V → stO (if s = true then 6 else 5) (V.map eW ++ B) = ((pO s V).1.map eW, (pO s V).2.map eW ++ B)
  | [], _ => by
    show stO _ B = ([], B)
    exact stO_B (by split <;> omega) B hB
  | v :: V, h => by
    have ih := stO_pO (s := s) hB V (fun w hw => h w (by simp [hw]))
    have ov := h v (by simp)
    obtain ⟨e1, e2, e3, e4, e5, e6⟩ := eW_op ov
    show stO _ (eW v :: (V.map eW ++ B)) = _
    unfold stO pO
    rw [ih]
    cases s with
    | false =>
      by_cases z : v = 14
      · rw [if_pos (by rw [e4 z]; decide), if_pos (Or.inl z)]
        rfl
      · rw [if_neg (by have := e3 z; simp; omega), if_neg (by rintro (w | ⟨w, _⟩); exact z w; cases w)]
        rfl
    | true =>
      by_cases z : v = 14 ∨ (v = 6 ∨ v = 7)
      · rw [if_pos (by
          rcases z with z | z
          · rw [e4 z]; decide
          · have := e6 z; simp; omega), if_pos (by rcases z with z | z; exact Or.inl z; exact Or.inr ⟨rfl, z⟩)]
        rfl
      · rw [if_neg (by
          have := e5 (by unfold opV at ov; omega)
          simp; omega), if_neg (by omega)]
        rfl
/-- with brackets open, what settles ends at the last one -/
theorem stO_open {lim : Nat} (h1 : 1 ≤ lim) (h5 : lim ≤ 5) {B : List Nat} : ∀ (V : List Nat), OpV V → 0 < cnt V → stO lim (V.map eW ++ B) = ((pO false V).1.map eW, (pO false V).2.map eW ++ B) ∧ ∃ V', (pO false V).2 = 14 :: V' ∧ cnt V = cnt V' + 1
  | [], _, h => absurd h (by decide)
  | v :: V, h, hc => by
    have ov := h v (by simp)
    obtain ⟨e1, e2, e3, e4, e5, e6⟩ := eW_op ov
    by_cases z : v = 14
    · have ep : pO false (v :: V) = ([], v :: V) := by unfold pO; rw [if_pos (Or.inl z)]
      rw [ep]
      refine ⟨?_, V, by rw [z], by rw [z]; unfold cnt; rw [List.count_cons_self]⟩
      show stO _ (eW v :: (V.map eW ++ B)) = _
      unfold stO
      rw [if_pos (by rw [e4 z]; omega)]
      rfl
    · have ec : cnt (v :: V) = cnt V := by unfold cnt; rw [List.count_cons_of_ne (by omega)]
      obtain ⟨i1, V', i2, i3⟩ := stO_open h1 h5 (B := B) V (fun w hw => h w (by simp [hw])) (by omega)
      have ep : pO false (v :: V) = (v :: (pO false V).1, (pO false V).2) := by
        show (if v = 14 ∨ (false = true ∧ (v = 6 ∨ v = 7)) then ([], v :: V) else (v :: (pO false V).1, (pO false V).2)) = _
        rw [if_neg (by rintro (w | ⟨w, _⟩); exact z w; cases w)]
      rw [ep]
      refine ⟨?_, V', i2, by omega⟩
      show stO _ (eW v :: (V.map eW ++ B)) = _
      have eu : stO lim (eW v :: (V.map eW ++ B)) = (eW v :: (stO lim (V.map eW ++ B)).1, (stO lim (V.map eW ++ B)).2) := by
        show (if eW v < lim * 100 then ([], eW v :: (V.map eW ++ B)) else _) = _
        rw [if_neg (by have := e3 z; omega)]
      rw [eu, i1]
      rfl
/-- without, all of V settles, then what it stands on -/
theorem stO_shut {lim : Nat} (h5 : lim ≤ 5) {B : List Nat} : ∀ (V : List Nat), OpV V → cnt V = 0 → stO lim (V.map eW ++ B) = (V.map eW ++ (stO lim B).1, (stO lim B).2) ∧ pO false V = (V, []) ∧ ∀ v, v ∈ V → v ≠ 14
  | [], _, _ => ⟨rfl, rfl, fun v hv => by cases hv⟩
  | v :: V, h, hc => by
    have ov := h v (by simp)
    obtain ⟨e1, e2, e3, e4, e5, e6⟩ := eW_op ov
    have z : v ≠ 14 := fun w => by
      rw [w] at hc
      unfold cnt at hc
      rw [List.count_cons_self] at hc
      omega
    have ec : cnt (v :: V) = cnt V := by unfold cnt; rw [List.count_cons_of_ne (by omega)]
    obtain ⟨i1, i2, i3⟩ := stO_shut h5 (B := B) V (fun w hw => h w (by simp [hw])) (by omega)
    refine ⟨?_, ?_, fun w hw => ?_⟩
    · show stO _ (eW v :: (V.map eW ++ B)) = _
      have eu : stO lim (eW v :: (V.map eW ++ B)) = (eW v :: (stO lim (V.map eW ++ B)).1, (stO lim (V.map eW ++ B)).2) := by
        show (if eW v < lim * 100 then ([], eW v :: (V.map eW ++ B)) else _) = _
        rw [if_neg (by have := e3 z; omega)]
      rw [eu, i1]
      rfl
    · show (if v = 14 ∨ (false = true ∧ (v = 6 ∨ v = 7)) then ([], v :: V) else (v :: (pO false V).1, (pO false V).2)) = _
      rw [if_neg (by rintro (w | ⟨w, _⟩); exact z w; cases w), i2]
    · rcases List.mem_cons.mp hw with e | e
      · rw [e]; exact z
      · exact i3 w e
/-- signs wait in order -/
def wl : List Nat → Prop
  | [] => True
  | v :: V => wl V ∧ (v = 14 ∨ ((v = 6 ∨ v = 7) ∧ V.headD 14 = 14) ∨ ((v = 8 ∨ v = 9) ∧ (V.headD 14 = 14 ∨ V.headD 14 = 6 ∨ V.headD 14 = 7)))
theorem wl_len : ∀ V, wl V → V.length ≤ 3 * cnt V + (if V.headD 14 = 14 then 0 else if V.headD 14 = 6 ∨ V.headD 14 = 7 then 1 else 2)
  | [], _ => by decide
  | v :: V, h => by
    have ih := wl_len V h.1
    show V.length + 1 ≤ 3 * cnt (v :: V) + (if v = 14 then 0 else if v = 6 ∨ v = 7 then 1 else 2)
    rcases h.2 with z | ⟨z, w⟩ | ⟨z, w⟩
    · have ec : cnt (v :: V) = cnt V + 1 := by rw [z]; unfold cnt; rw [List.count_cons_self]
      rw [if_pos z]
      split at ih
      · omega
      · split at ih <;> omega
    · have ec : cnt (v :: V) = cnt V := by unfold cnt; rw [List.count_cons_of_ne (by omega)]
      rw [if_pos w] at ih
      rw [if_neg (by omega), if_pos z]
      omega
    · have ec : cnt (v :: V) = cnt V := by unfold cnt; rw [List.count_cons_of_ne (by omega)]
      rw [if_neg (by omega), if_neg (by omega)]
      split at ih
      · omega
      · rw [if_pos (by omega)] at ih
        omega
theorem wl_20 {V : List Nat} (h : wl V) (hc : cnt V ≤ 6) : V.length ≤ 20 := by
  have := wl_len V h
  split at this
  · omega
  · split at this <;> omega
theorem wl_opn {V : List Nat} (h : wl V) (hc : cnt V ≤ 6) : V.length - cnt V ≤ 14 := by
  have := wl_len V h
  split at this
  · omega
  · split at this <;> omega
theorem pO_wl {s : Bool} : ∀ V, wl V → OpV V → wl (pO s V).2 ∧ ((pO s V).2.headD 14 = 14 ∨ (s = true ∧ ((pO s V).2.headD 14 = 6 ∨ (pO s V).2.headD 14 = 7)))
  | [], _, _ => ⟨trivial, Or.inl rfl⟩
  | v :: V, h, ho => by
    have ih := pO_wl (s := s) V h.1 (fun w hw => ho w (by simp [hw]))
    unfold pO
    split
    · next q =>
      refine ⟨h, ?_⟩
      show v = 14 ∨ (s = true ∧ (v = 6 ∨ v = 7))
      exact q
    · exact ih
theorem cnt_le (V : List Nat) : cnt V ≤ V.length := List.count_le_length
/-- codes that take d numbers to e -/
def wfL : List (Nat × Nat) → Nat → Nat → Prop
  | [], d, e => d = e
  | (k, v) :: L, d, e => d ≤ 20 ∧ ((k = 0 ∧ v ≤ 9999 ∧ wfL L (d + 1) e) ∨ (k = 1 ∧ v < 12 ∧ wfL L (d + 1) e) ∨ (2 ≤ k ∧ k ≤ 5 ∧ 2 ≤ d ∧ wfL L (d - 1) e))
theorem wfL_app {M : List (Nat × Nat)} {e f : Nat} (hM : wfL M e f) : ∀ (L : List (Nat × Nat)) (d : Nat), wfL L d e → wfL (L ++ M) d f
  | [], d, h => by
    have h' : d = e := h
    rw [h']
    exact hM
  | (k, v) :: L, d, h => by
    obtain ⟨h1, h2⟩ := h
    refine ⟨h1, ?_⟩
    rcases h2 with ⟨a, b, c⟩ | ⟨a, b, c⟩ | ⟨a, b, c, e⟩
    · exact Or.inl ⟨a, b, wfL_app hM L _ c⟩
    · exact Or.inr (Or.inl ⟨a, b, wfL_app hM L _ c⟩)
    · exact Or.inr (Or.inr ⟨a, b, c, wfL_app hM L _ e⟩)
theorem wfL_V {m : Nat} (hm : 1 ≤ m) : ∀ (Q : List Nat), OpV Q → (∀ v, v ∈ Q → v ≠ 14) → Q.length + m ≤ 20 → wfL (cdV Q) (Q.length + m) m
  | [], _, _, _ => by
    show 0 + m = m
    omega
  | v :: Q, h, h14, hl => by
    simp only [List.length_cons] at hl
    have ih := wfL_V hm Q (fun w hw => h w (by simp [hw])) (fun w hw => h14 w (by simp [hw])) (by omega)
    have ov := h v (by simp)
    have v14 := h14 v (by simp)
    show Q.length + 1 + m ≤ 20 ∧ ((v - 4 = 0 ∧ 0 ≤ 9999 ∧ wfL (cdV Q) (Q.length + 1 + m + 1) m) ∨ (v - 4 = 1 ∧ 0 < 12 ∧ wfL (cdV Q) (Q.length + 1 + m + 1) m) ∨ (2 ≤ v - 4 ∧ v - 4 ≤ 5 ∧ 2 ≤ Q.length + 1 + m ∧ wfL (cdV Q) (Q.length + 1 + m - 1) m))
    refine ⟨by omega, Or.inr (Or.inr ⟨by unfold opV at ov; omega, by unfold opV at ov; omega, by omega, ?_⟩)⟩
    rw [show Q.length + 1 + m - 1 = Q.length + m by omega]
    exact ih
/-- what has come out keeps the numbers in order -/
theorem wfL_out {s : Bool} {V : List Nat} {L : List (Nat × Nat)} (h : wfL L 0 (V.length - cnt V + 1)) (ho : OpV V) (hw : wl V) (hc : cnt V ≤ 6) : wfL (L ++ cdV (pO s V).1) 0 ((pO s V).2.length - cnt (pO s V).2 + 1) := by
  have l1 := pO_len s V
  have l2 := pO_cnt s V
  have l3 := cnt_le (pO s V).2
  have l4 := wl_opn hw hc
  obtain ⟨o1, o2, o3⟩ := pO_op s V ho
  refine wfL_app ?_ L 0 h
  have := wfL_V (m := (pO s V).2.length - cnt (pO s V).2 + 1) (by omega) (pO s V).1 o2 o3 (by omega)
  rw [show (pO s V).1.length + ((pO s V).2.length - cnt (pO s V).2 + 1) = V.length - cnt V + 1 by omega] at this
  exact this
section Kp
variable {p p' r r' : Mem} {N : Nat} {kd pl : Nat → Nat}
theorem Toks.keep (h : Toks p r N kd pl) (e1 : aI p' 18 = aI p 18) (e2 : aI p' 19 = aI p 19) (e3 : aL p' 20 = aL p 20) (e4 : aI r' 3 = aI r 3) (e5 : aI r' 4 = aI r 4) (e6 : aI r' 5 = aI r 5) (e7 : aL r' 6 = aL r 6) : Toks p' r' N kd pl := by
  unfold Toks
  rw [e1, e2, e3, e4, e5, e6, e7]
  exact h
theorem Toks.cf (h : Toks p r N kd pl) (c : Cf p p') (hp : 51 ≤ mC p) : Toks p' r N kd pl :=
  h.keep (c.1.2.2.2 18 (by decide) (fun z => z) (by omega)).1 (c.1.2.2.2 19 (by decide) (fun z => z) (by omega)).1 (c.1.2.2.2 20 (by decide) (fun z => z) (by omega)).2.1 rfl rfl rfl rfl
theorem Toks.rx {C : Nat} (h : Toks p r N kd pl) (c : Rx C r r') (hp : 82 ≤ mC r) : Toks p r' N kd pl :=
  h.keep rfl rfl rfl (c.1.2.2.2 3 (by decide) (fun z => z) (by omega)).1 (c.1.2.2.2 4 (by decide) (fun z => z) (by omega)).1 (c.1.2.2.2 5 (by decide) (fun z => z) (by omega)).1 (c.1.2.2.2 6 (by decide) (fun z => z) (by omega)).2.1
end Kp
