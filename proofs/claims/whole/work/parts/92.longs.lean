/-! Layer C: longs; bounds of a HALF's worth -/
def nl (k : Nat) : Int64 := Int64.ofNat k
theorem nl_add (a b : Nat) : nl a + nl b = nl (a + b) := (Int64.ofNat_add a b).symm
theorem nl_mul (a b : Nat) : nl a * nl b = nl (a * b) := (Int64.ofNat_mul a b).symm
theorem nl_int {k : Nat} (h : k < 9223372036854775808) : (nl k).toInt = (k : Int) := Int64.toInt_ofNat_of_lt h
theorem nl_div {a b : Nat} (ha : a < 9223372036854775808) (hb : b < 9223372036854775808) : nl a / nl b = nl (a / b) := (Int64.ofNat_div ha hb).symm
theorem nl_inj {a b : Nat} (ha : a < 9223372036854775808) (hb : b < 9223372036854775808) : (nl a = nl b) = (a = b) := propext ⟨fun h => by
  have := congrArg Int64.toInt h
  rw [nl_int ha, nl_int hb] at this
  omega, fun h => h ▸ rfl⟩
theorem nj_64 {v : Nat} (h : v < 2147483648) : Int32.toInt64 (nj v) = nl v := by
  apply Int64.toInt.inj
  rw [Int32.toInt_toInt64, nj_int h, nl_int (by omega)]
theorem nl_32 {v : Nat} (h : v < 2147483648) : Int64.toInt32 (nl v) = nj v := by
  apply Int32.toInt.inj
  rw [Int64.toInt_toInt32, nl_int (by omega), nj_int h]
  exact Int.bmod_eq_of_le (by omega) (by omega)
section Bd
variable {D : Dt} {nc : Nat} {X : Dy} {sup : Sup}
theorem lastP_bd (Wf : WFact D nc) {t g q : Int32} : ∀ n v, n ≤ D.2.2 → lastP D t g q n = some v → ∃ k, k < 100 ∧ v = nj k
  | 0, v, _, h => by cases h
  | n + 1, v, hn, h => by
    unfold lastP at h
    by_cases c : isP D t g q n
    · rw [if_pos c] at h
      cases h
      obtain ⟨s, s1, s2, -, s4, -⟩ := Wf n (by omega)
      obtain ⟨a, b, c', v, -, -, -, hv, -, -, -, e⟩ := s4 ((nj_inj (b := 4) (by omega) (by omega)).mp (s2.symm.trans c.1))
      exact ⟨v, hv, e⟩
    · rw [if_neg c] at h
      exact lastP_bd Wf n v (by omega) h
theorem rP_bd (Wf : WFact D nc) {t g : Int32} {n : Nat} (hn : n ≤ D.2.2) : ∀ b, ∃ k, k < 100 ∧ rP D t g n b = nj k
  | 0 => ⟨0, by omega, rfl⟩
  | b + 1 => by
    have hs : rP D t g n (b + 1) = match lastP D t g (nj b) n with
      | some v => v
      | none => rP D t g n b := rfl
    rw [hs]
    cases c : lastP D t g (nj b) n with
    | some v => exact lastP_bd Wf n v hn c
    | none => exact rP_bd Wf hn b
def WgD (D : Dt) : Prop := ∀ j, j < 4 → ∃ k, k ≤ 9 ∧ D.1 43 j = nj k
theorem leS_bd (Wf : WFact D nc) (hg : WgD D) {t : Int32} {q n : Nat} (hn : n ≤ D.2.2) : ∀ g, g ≤ 4 → ∃ k, k ≤ 900 * g ∧ leS D t q n g = nj k
  | 0, _ => ⟨0, by omega, rfl⟩
  | g + 1, h => by
    obtain ⟨k, hk, e⟩ := leS_bd Wf hg (t := t) (q := q) hn g (by omega)
    obtain ⟨a, ha, ea⟩ := hg g (by omega)
    obtain ⟨b, hb, eb⟩ := rP_bd Wf (t := t) (g := nj g) hn (q + 1)
    refine ⟨k + a * b, ?_, ?_⟩
    · have : a * b ≤ 9 * 100 := Nat.mul_le_mul ha (by omega)
      omega
    · show leS D t q n g + D.1 43 g * rP D t (nj g) n (q + 1) = _
      rw [e, ea, eb, nj_mul, nj_add]
theorem rt_bd (Wf : WFact D nc) (hg : WgD D) (hn : xn X ≤ D.2.2) {k j : Nat} : rtS D X sup k j ≤ 100000 := by
  obtain ⟨v, hv, e⟩ := leS_bd Wf hg (t := D.1 37 (xf X)) (q := xd X / 35) hn 4 (by omega)
  have e0 : vS D (xf X) (xd X) (xn X) (xy X) 0 = nj v := e
  have h1 : nj v ≤ 3600 := by rw [show (3600 : Int32) = nj 3600 from rfl, nj_le (by omega) (by omega)]; omega
  have h2 := nj_0le (k := v) (by omega)
  have h3 : mgH D X sup k j ≤ 9999 ∧ -9999 ≤ mgH D X sup k j := by
    unfold mgH hld jmax jmin
    grind
  unfold rtS jmax
  rw [e0]
  grind
/-- what a HALF is worth -/
noncomputable def vN (D : Dt) (X : Dy) (sup : Sup) (h : Nat) : Nat := ix (jmax (wA D X sup h) (wG D X sup h))
theorem wOp_bd (W : WText D nc) (Wf : WFact D nc) (Wi : WItems D nc) (hn60 : nc ≤ 60) (hg : WgD D) (hd : xd X < 140) (hn : xn X ≤ D.2.2) {o c : Option Nat} {h : Nat} (ho : ∀ k, o = some k → k < D.2.1) : ∃ v, v ≤ 200000000 ∧ wOp D X sup o c h = nj v := by
  cases o with
  | none => exact ⟨0, by omega, wOp_none⟩
  | some k =>
    cases c with
    | none => exact ⟨0, by omega, rfl⟩
    | some j => exact wo_nn W Wi hn60 hd (ho k rfl) (rt_bd Wf hg hn)
theorem vN_e (W : WText D nc) (Wf : WFact D nc) (Wi : WItems D nc) (hn60 : nc ≤ 60) (hg : WgD D) (hd : xd X < 140) (hn : xn X ≤ D.2.2) (h : Nat) : vN D X sup h ≤ 200000000 ∧ jmax (wA D X sup h) (wG D X sup h) = nj (vN D X sup h) ∧ 0 ≤ wA D X sup h ∧ 0 ≤ wG D X sup h := by
  obtain ⟨a, ha, ea⟩ := wOp_bd (sup := sup) (c := clH D X sup (awH D X) h) (h := h) W Wf Wi hn60 hg hd hn (fun k e => (GW_aw h k e).1)
  obtain ⟨b, hb, eb⟩ := wOp_bd (sup := sup) (c := clH D X sup (agH D X) h) (h := h) W Wf Wi hn60 hg hd hn (fun k e => (GW_ag h k e).1)
  have e1 : wA D X sup h = nj a := ea
  have e2 : wG D X sup h = nj b := eb
  unfold vN
  rw [e1, e2]
  refine ⟨?_, ?_, nj_0le (by omega), nj_0le (by omega)⟩
  · unfold jmax
    by_cases q : nj a < nj b
    · rw [if_pos q, ix_nj (by omega)]; exact hb
    · rw [if_neg q, ix_nj (by omega)]; exact ha
  · unfold jmax
    by_cases q : nj a < nj b
    · rw [if_pos q, ix_nj (by omega)]
    · rw [if_neg q, ix_nj (by omega)]
/-- what the first HALVES of a DAY are worth by an award -/
noncomputable def suH (D : Dt) (X : Dy) (sup : Sup) (k : Nat) : Nat → Nat
  | 0 => 0
  | h + 1 => suH D X sup k h + if awH D X h = some k then vN D X sup h else 0
def XQ (X : Dy) (wk q : Nat) : Dy := (xf X, 7 * wk + q, xn X, xa X, xy X, xt X)
noncomputable def toW (D : Dt) (X : Dy) (sup : Sup) (wk k : Nat) : Nat → Nat
  | 0 => 0
  | q + 1 => toW D X sup wk k q + suH D (XQ X wk q) sup k 48
theorem suH_bd (hv : ∀ h, vN D X sup h ≤ 200000000) {k : Nat} : ∀ h, suH D X sup k h ≤ 200000000 * h
  | 0 => Nat.le_refl _
  | h + 1 => by
    have := suH_bd hv (k := k) h
    have := hv h
    show suH D X sup k h + (if awH D X h = some k then vN D X sup h else 0) ≤ 200000000 * (h + 1)
    split <;> omega
theorem suH_no {k : Nat} : ∀ H, (∀ h, h < H → awH D X h ≠ some k) → suH D X sup k H = 0
  | 0, _ => rfl
  | H + 1, h => by
    show suH D X sup k H + (if awH D X H = some k then vN D X sup H else 0) = 0
    rw [suH_no H (fun x hx => h x (by omega)), if_neg (h H (by omega))]
theorem toW_bd {wk k : Nat} (hv : ∀ q h, q < 7 → vN D (XQ X wk q) sup h ≤ 200000000) : ∀ Q, Q ≤ 7 → toW D X sup wk k Q ≤ 9600000000 * Q
  | 0, _ => Nat.le_refl _
  | Q + 1, h => by
    have h1 := toW_bd hv (k := k) Q (by omega)
    have h2 := suH_bd (k := k) (fun h' => hv Q h' (by omega)) 48
    show toW D X sup wk k Q + suH D (XQ X wk Q) sup k 48 ≤ _
    omega
/-- a week's pay by an award, rounded -/
noncomputable def stQ (D : Dt) (X : Dy) (wk k : Nat) : Nat := if inH D (XQ X wk 6) k = true ∧ D.1 8 k = 0 then ix ((bQ D (7 * wk + 6) (xf X) (xn X)).1 k).2.2 else 1
noncomputable def rdW (D : Dt) (X : Dy) (sup : Sup) (wk k : Nat) : Nat := (toW D X sup wk k 7 + 100 * stQ D X wk k) / (200 * stQ D X wk k) * stQ D X wk k
noncomputable def pyW (D : Dt) (X : Dy) (sup : Sup) (wk : Nat) : Nat := sm (rdW D X sup wk) (List.range D.2.1)
theorem st_bd (W : WText D nc) (Wi : WItems D nc) {wk k : Nat} (hk : k < D.2.1) : 1 ≤ stQ D X wk k ∧ stQ D X wk k ≤ 240 := by
  unfold stQ
  split
  · obtain ⟨c, c1, c2, e⟩ := (bQ_ok W Wi (d := 7 * wk + 6) (f := xf X) (n := xn X) hk).2
    rw [e, ix_nj (by omega)]
    exact ⟨c1, c2⟩
  · omega
theorem rd_bd {t c : Nat} (h1 : 1 ≤ c) (h2 : c ≤ 240) (ht : t ≤ 67200000000) : (t + 100 * c) / (200 * c) * c ≤ 336000240 := by
  have h3 : (t + 100 * c) / (200 * c) * (200 * c) ≤ t + 100 * c := Nat.div_mul_le_self _ _
  generalize (t + 100 * c) / (200 * c) = q at *
  have : q * (200 * c) = 200 * (q * c) := by
    rw [← Nat.mul_assoc, Nat.mul_comm q 200, Nat.mul_assoc]
  generalize q * c = z at *
  omega
theorem sm_erase (f : Nat → Nat) : ∀ (l : List Nat) (a : Nat), a ∈ l → sm f l = f a + sm f (l.erase a)
  | x :: l, a, h => by
    by_cases q : x = a
    · subst q
      rw [List.erase_cons_head]
      rfl
    · have h2 : a ∈ l := by
        rcases List.mem_cons.mp h with z | z
        · exact absurd z.symm q
        · exact z
      rw [List.erase_cons_tail (by simpa using q)]
      show f x + sm f l = f a + (f x + sm f (l.erase a))
      rw [sm_erase f l a h2]
      omega
theorem sm_perm (f : Nat → Nat) : ∀ (l m : List Nat), l.Nodup → m.Nodup → (∀ x, x ∈ l ↔ x ∈ m) → sm f l = sm f m
  | [], m, _, _, h => by
    cases m with
    | nil => rfl
    | cons a m => exact absurd ((h a).mpr (by simp)) (by simp)
  | x :: l, m, h1, h2, h => by
    have hx : x ∈ m := (h x).mp (by simp)
    have h1' := List.nodup_cons.mp h1
    rw [sm_erase f m x hx]
    show f x + sm f l = _
    rw [sm_perm f l (m.erase x) h1'.2 (h2.erase x) (fun y => ?_)]
    rw [h2.mem_erase_iff]
    constructor
    · intro hy
      exact ⟨fun e => h1'.1 (e ▸ hy), (h y).mp (by simp [hy])⟩
    · rintro ⟨q1, q2⟩
      rcases List.mem_cons.mp ((h y).mpr q2) with z | z
      · exact absurd z q1
      · exact z
end Bd
