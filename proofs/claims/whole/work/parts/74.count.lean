/-! Layer C: classes of the HALVES of a DAY: what they come to; counting -/
noncomputable def rowQ (D : Dt) (X : Dy) (k : Nat) : List Row := ((bQ D (xd X) (xf X) (xn X)).1 k).1
noncomputable def chQ (D : Dt) (X : Dy) (k : Nat) : Int32 := ((bQ D (xd X) (xf X) (xn X)).1 k).2.1
/-- the first class among rows, from j on, that has the TASK -/
def fcR (D : Dt) (t : Int32) : List Row → Nat → Option Nat
  | [], _ => none
  | z :: l, j => if D.1 15 z.1 = 2 ∧ ((D.1 17 z.1) >>> (t &&& 31)) &&& 1 = 1 then some j else fcR D t l (j + 1)
/-- by each HALF's own TASK, in the TEXT that g gives it -/
noncomputable def c0H (D : Dt) (X : Dy) (g : Nat → Option Nat) (h : Nat) : Option Nat := match g h with
  | some k => fcR D (tsH D X h) (rowQ D X k) 0
  | none => none
noncomputable def kH (D : Dt) (X : Dy) (g : Nat → Option Nat) (k h : Nat) : Option Nat := if g h = some k then c0H D X g h else none
/-- how many of the first HALVES have i -/
def cO (φ : Nat → Option Nat) (i : Nat) : Nat → Nat
  | 0 => 0
  | h + 1 => cO φ i h + if φ h = some i then 1 else 0
noncomputable def tlH (D : Dt) (X : Dy) (g : Nat → Option Nat) (k j : Nat) : Nat := cO (kH D X g k) j 48
noncomputable def mgH (D : Dt) (X : Dy) (sup : Sup) (k j : Nat) : Int32 := hld (mgW D (bQ D (xd X) (xf X) (xn X)) (inH D X) (vS D (xf X) (xd X) (xn X) (xy X)) sup 1441 [] k j 0)
/-- the class that is chosen among the first rows -/
def chF (ch : Int32) (tl : Nat → Nat) (mg : Nat → Int32) : Nat → Option Nat
  | 0 => none
  | j + 1 => if tl j = 0 then chF ch tl mg j else match chF ch tl mg j with
    | none => some j
    | some b => if (ch = 1 ∧ tl b < tl j) ∨ ((ch = 1 → tl j = tl b) ∧ mg b < mg j) then some j else some b
noncomputable def clH (D : Dt) (X : Dy) (sup : Sup) (g : Nat → Option Nat) (h : Nat) : Option Nat := match g h with
  | some k => match c0H D X g h with
    | some j => if chQ D X k = 0 then some j else chF (chQ D X k) (tlH D X g k) (mgH D X sup k) (rowQ D X k).length
    | none => none
  | none => none
section Co
variable {D : Dt} {X : Dy} {φ g : Nat → Option Nat}
theorem fcR_some {t : Int32} : ∀ {l : List Row} {j i : Nat}, fcR D t l j = some i → j ≤ i ∧ i < j + l.length ∧ ∃ z, l[i - j]? = some z ∧ D.1 15 z.1 = 2
  | [], _, _, h => by cases h
  | q :: L, j, i, h => by
    unfold fcR at h
    by_cases c : D.1 15 q.1 = 2 ∧ ((D.1 17 q.1) >>> (t &&& 31)) &&& 1 = 1
    · rw [if_pos c] at h
      cases h
      exact ⟨Nat.le_refl _, by simp, q, by simp, c.1⟩
    · rw [if_neg c] at h
      obtain ⟨h1, h2, z, h3, h4⟩ := fcR_some h
      refine ⟨by omega, by simp; omega, z, ?_, h4⟩
      rw [show i - j = (i - (j + 1)) + 1 by omega]
      exact h3
theorem c0_some {h k j : Nat} (hg : g h = some k) (e : c0H D X g h = some j) : ∃ z, (rowQ D X k)[j]? = some z ∧ D.1 15 z.1 = 2 := by
  unfold c0H at e
  rw [hg] at e
  obtain ⟨-, -, z, h3, h4⟩ := fcR_some e
  exact ⟨z, h3, h4⟩
/-- sums over a list -/
def sm (f : Nat → Nat) : List Nat → Nat
  | [] => 0
  | x :: l => f x + sm f l
theorem sm_add (f f' : Nat → Nat) : ∀ l, sm (fun x => f x + f' x) l = sm f l + sm f' l
  | [] => rfl
  | x :: l => by
    show f x + f' x + sm (fun x => f x + f' x) l = f x + sm f l + (f' x + sm f' l)
    rw [sm_add f f' l]
    omega
theorem sm_mono {f f' : Nat → Nat} : ∀ l, (∀ x, x ∈ l → f x ≤ f' x) → sm f l ≤ sm f' l
  | [], _ => Nat.le_refl _
  | x :: l, h => by
    have h1 := h x (by simp)
    have h2 := sm_mono (f := f) (f' := f') l (fun y hy => h y (by simp [hy]))
    show f x + sm f l ≤ f' x + sm f' l
    omega
theorem sm_app (f : Nat → Nat) : ∀ l m, sm f (l ++ m) = sm f l + sm f m
  | [], m => by show sm f m = 0 + sm f m; omega
  | x :: l, m => by
    show f x + sm f (l ++ m) = f x + sm f l + sm f m
    rw [sm_app f l m]
    omega
theorem sm_0 : ∀ l, sm (fun _ => 0) l = 0
  | [] => rfl
  | x :: l => by
    show 0 + sm (fun _ => 0) l = 0
    rw [sm_0 l]
theorem sm_one {o : Option Nat} : ∀ l : List Nat, l.Nodup → sm (fun i => if o = some i then 1 else 0) l ≤ if o = none then 0 else 1
  | [], _ => Nat.zero_le _
  | x :: l, hd => by
    have hd' := List.nodup_cons.mp hd
    have ih := sm_one (o := o) l hd'.2
    show (if o = some x then 1 else 0) + sm (fun i => if o = some i then 1 else 0) l ≤ _
    by_cases q : o = some x
    · have : ∀ i, i ∈ l → (if o = some i then 1 else 0) ≤ (fun _ => 0) i := fun i hi => by
        rw [if_neg (fun z => by rw [q] at z; cases z; exact hd'.1 hi)]
        exact Nat.le_refl _
      have h0 := sm_mono (f := fun i => if o = some i then 1 else 0) l this
      rw [sm_0] at h0
      rw [if_pos q, if_neg (by rw [q]; simp)]
      omega
    · rw [if_neg q]
      omega
/-- of the first HALVES those that have any -/
def cN (φ : Nat → Option Nat) : Nat → Nat
  | 0 => 0
  | h + 1 => cN φ h + if φ h = none then 0 else 1
theorem sm_cO {l : List Nat} (hd : l.Nodup) : ∀ H, sm (fun i => cO φ i H) l ≤ cN φ H
  | 0 => by
    show sm (fun _ => 0) l ≤ 0
    rw [sm_0]
    exact Nat.le_refl _
  | H + 1 => by
    have ih := sm_cO hd H
    have h1 := sm_one (o := φ H) l hd
    show sm (fun i => cO φ i H + if φ H = some i then 1 else 0) l ≤ cN φ H + if φ H = none then 0 else 1
    rw [sm_add]
    omega
theorem cN_le : ∀ H, cN φ H ≤ H
  | 0 => Nat.le_refl _
  | H + 1 => by
    have := cN_le H
    show cN φ H + (if φ H = none then 0 else 1) ≤ H + 1
    split <;> omega
theorem cO_le {i : Nat} : ∀ H, cO φ i H ≤ H
  | 0 => Nat.le_refl _
  | H + 1 => by
    have := cO_le (i := i) H
    show cO φ i H + (if φ H = some i then 1 else 0) ≤ H + 1
    split <;> omega
theorem cN_kH {k : Nat} : ∀ H, cN (kH D X g k) H ≤ cO g k H
  | 0 => Nat.le_refl _
  | H + 1 => by
    have ih := cN_kH (k := k) H
    show cN (kH D X g k) H + (if kH D X g k H = none then 0 else 1) ≤ cO g k H + (if g H = some k then 1 else 0)
    by_cases q : g H = some k
    · rw [if_pos q]
      split <;> omega
    · have : kH D X g k H = none := by unfold kH; rw [if_neg q]
      rw [if_pos this, if_neg q]
      omega
/-- walks that the choice among the first j rows takes -/
def wkC (tl : Nat → Nat) : Nat → Nat
  | 0 => 0
  | j + 1 => wkC tl j + if tl j = 0 then 0 else 1
theorem wkC_le (tl : Nat → Nat) : ∀ j, wkC tl j ≤ sm tl (List.range j)
  | 0 => Nat.le_refl _
  | j + 1 => by
    have ih := wkC_le tl j
    rw [List.range_succ, sm_app]
    show wkC tl j + (if tl j = 0 then 0 else 1) ≤ sm tl (List.range j) + (tl j + 0)
    split <;> omega
theorem walks_le {k n : Nat} : wkC (tlH D X g k) n ≤ cO g k 48 := by
  have h1 := wkC_le (tlH D X g k) n
  have h2 := sm_cO (φ := kH D X g k) (l := List.range n) List.nodup_range 48
  have h3 := cN_kH (D := D) (X := X) (g := g) (k := k) 48
  have h4 : sm (tlH D X g k) (List.range n) = sm (fun i => cO (kH D X g k) i 48) (List.range n) := rfl
  omega
theorem walks_all {od : List Nat} (hd : od.Nodup) : sm (fun k => cO g k 48) od ≤ 48 := Nat.le_trans (sm_cO hd 48) (cN_le 48)
theorem chF_lt {ch : Int32} {tl : Nat → Nat} {mg : Nat → Int32} : ∀ {n b : Nat}, chF ch tl mg n = some b → b < n ∧ tl b ≠ 0
  | 0, b, h => by cases h
  | n + 1, b, h => by
    unfold chF at h
    by_cases q : tl n = 0
    · rw [if_pos q] at h
      have := chF_lt h
      exact ⟨by omega, this.2⟩
    · rw [if_neg q] at h
      cases c : chF ch tl mg n with
      | none =>
        rw [c] at h
        cases h
        exact ⟨by omega, q⟩
      | some b0 =>
        have hb := chF_lt c
        rw [c] at h
        simp only at h
        by_cases q2 : (ch = 1 ∧ tl b0 < tl n) ∨ ((ch = 1 → tl n = tl b0) ∧ mg b0 < mg n)
        · rw [if_pos q2] at h
          cases h
          exact ⟨by omega, q⟩
        · rw [if_neg q2] at h
          cases h
          exact ⟨by omega, hb.2⟩
theorem cO_ex {i : Nat} : ∀ {H : Nat}, cO φ i H ≠ 0 → ∃ h, h < H ∧ φ h = some i
  | 0, h => absurd rfl h
  | H + 1, h => by
    by_cases q : φ H = some i
    · exact ⟨H, by omega, q⟩
    · have : cO φ i H ≠ 0 := fun z => h (by
        show cO φ i H + (if φ H = some i then 1 else 0) = 0
        rw [z, if_neg q])
      obtain ⟨x, h1, h2⟩ := cO_ex this
      exact ⟨x, by omega, h2⟩
theorem tl_row {k j : Nat} (h : tlH D X g k j ≠ 0) : ∃ z, (rowQ D X k)[j]? = some z ∧ D.1 15 z.1 = 2 := by
  obtain ⟨x, h1, h2⟩ := cO_ex h
  unfold kH at h2
  by_cases q : g x = some k
  · rw [if_pos q] at h2
    exact c0_some q h2
  · rw [if_neg q] at h2
    cases h2
theorem cl_some {sup : Sup} {h k j : Nat} (hg : g h = some k) (e : clH D X sup g h = some j) : ∃ z, (rowQ D X k)[j]? = some z ∧ D.1 15 z.1 = 2 := by
  unfold clH at e
  rw [hg] at e
  simp only at e
  cases c : c0H D X g h with
  | none => rw [c] at e; cases e
  | some i =>
    rw [c] at e
    simp only at e
    by_cases q : chQ D X k = 0
    · rw [if_pos q] at e
      cases e
      exact c0_some hg c
    · rw [if_neg q] at e
      exact tl_row (chF_lt e).2
end Co
