/-! the abstract memory, and what the printed functions are made of -/
/-- tags, lengths; int, long, reference fields by their numbers, then addresses; int, long, reference elements by addresses; cells, slots -/
abbrev Mem : Type := (Nat → Nat) × (Nat → Nat) × (Nat → Nat → Int32) × (Nat → Nat → Int64) × (Nat → Nat → Option Nat) × (Nat → Nat → Int32) × (Nat → Nat → Int64) × (Nat → Nat → Option Nat) × Nat × Nat
def mT (m : Mem) : Nat → Nat := m.1
def mN (m : Mem) : Nat → Nat := m.2.1
def mI (m : Mem) : Nat → Nat → Int32 := m.2.2.1
def mL (m : Mem) : Nat → Nat → Int64 := m.2.2.2.1
def mR (m : Mem) : Nat → Nat → Option Nat := m.2.2.2.2.1
def aI (m : Mem) : Nat → Nat → Int32 := m.2.2.2.2.2.1
def aL (m : Mem) : Nat → Nat → Int64 := m.2.2.2.2.2.2.1
def aR (m : Mem) : Nat → Nat → Option Nat := m.2.2.2.2.2.2.2.1
def mC (m : Mem) : Nat := m.2.2.2.2.2.2.2.2.1
def mS (m : Mem) : Nat := m.2.2.2.2.2.2.2.2.2
def up1 {β : Type} (f : Nat → β) (a : Nat) (v : β) : Nat → β := fun i => if i = a then v else f i
def up2 {β : Type} (f : Nat → Nat → β) (a b : Nat) (v : β) : Nat → Nat → β := fun i j => if i = a ∧ j = b then v else f i j
def sI (m : Mem) (f a : Nat) (v : Int32) : Mem := (mT m, mN m, up2 (mI m) f a v, mL m, mR m, aI m, aL m, aR m, mC m, mS m)
def sL (m : Mem) (f a : Nat) (v : Int64) : Mem := (mT m, mN m, mI m, up2 (mL m) f a v, mR m, aI m, aL m, aR m, mC m, mS m)
def sR (m : Mem) (f a : Nat) (v : Option Nat) : Mem := (mT m, mN m, mI m, mL m, up2 (mR m) f a v, aI m, aL m, aR m, mC m, mS m)
def wI (m : Mem) (a j : Nat) (v : Int32) : Mem := (mT m, mN m, mI m, mL m, mR m, up2 (aI m) a j v, aL m, aR m, mC m, mS m)
def wL (m : Mem) (a j : Nat) (v : Int64) : Mem := (mT m, mN m, mI m, mL m, mR m, aI m, up2 (aL m) a j v, aR m, mC m, mS m)
def wR (m : Mem) (a j : Nat) (v : Option Nat) : Mem := (mT m, mN m, mI m, mL m, mR m, aI m, aL m, up2 (aR m) a j v, mC m, mS m)
/-- what a new object's fields, a new array's elements hold -/
def zF {β : Type} (t : Nat) (g : Nat → Nat → β) (a : Nat) (v : β) : Nat → Nat → β := if t < 32 then fun f => up1 (g f) a v else g
def zA {β : Type} (t : Nat) (g : Nat → Nat → β) (a : Nat) (v : β) : Nat → Nat → β := if t < 32 then g else up1 g a (fun _ => v)
def nw (m : Mem) (t n z : Nat) : Mem := (up1 (mT m) (mC m) t, up1 (mN m) (mC m) n, zF t (mI m) (mC m) 0, zF t (mL m) (mC m) 0, zF t (mR m) (mC m) none, zA t (aI m) (mC m) 0, zA t (aL m) (mC m) 0, zA t (aR m) (mC m) none, mC m + 1, mS m + z)
theorem up1_ne {β : Type} {f : Nat → β} {a i : Nat} {x : β} (h : i ≠ a) : up1 f a x i = f i := if_neg h
theorem up1_eq {β : Type} {f : Nat → β} {a : Nat} {x : β} : up1 f a x a = x := if_pos rfl
theorem zF_ne {β : Type} {t : Nat} {g : Nat → Nat → β} {a b f : Nat} {v : β} (h : b ≠ a) : zF t g a v f b = g f b := by
  unfold zF
  split
  · exact up1_ne h
  · rfl
theorem zA_ne {β : Type} {t : Nat} {g : Nat → Nat → β} {a b : Nat} {v : β} (h : b ≠ a) : zA t g a v b = g b := by
  unfold zA
  split
  · rfl
  · exact up1_ne h
theorem up2_ne {β : Type} {f : Nat → Nat → β} {a b i j : Nat} {x : β} (h : ¬ (i = a ∧ j = b)) : up2 f a b x i j = f i j := if_neg h
theorem up2_eq {β : Type} {f : Nat → Nat → β} {a b : Nat} {x : β} : up2 f a b x a b = x := if_pos ⟨rfl, rfl⟩
def ix (i : Int32) : Nat := i.toNatClampNeg
def inb (i : Int32) (n : Nat) : Bool := decide (¬ (i < 0 ∨ n ≤ i.toNatClampNeg))
def FU : Nat := 100000
def gd {β : Type} (b : Bool) (k : Option β) : Option β := if b = true then k else none
def gz {β : Type} (x : Int32) (k : Option β) : Option β := if x = 0 ∨ x = 1 then k else none
def gn {β : Type} (x : Int32) (k : Option β) : Option β := if x = 0 then none else k
def gnl {β : Type} (x : Int64) (k : Option β) : Option β := if x = 0 then none else k
def gt {β : Type} (m : Mem) (a t : Nat) (k : Option β) : Option β := if mT m a = t then k else none
def gs {β : Type} (o : Option Nat) (k : Nat → Option β) : Option β := match o with
  | some a => k a
  | none => none
def go {β : Type} (m : Mem) (o : Option Nat) (t : Nat) (k : Option β) : Option β := match o with
  | some a => if mT m a = t then k else none
  | none => k
def vb {γ β : Type} (x : γ) (k : γ → Option β) : Option β := k x
def bp {ρ β : Type} (x : Option ρ) (k : ρ → Option β) : Option β := match x with
  | some r => k r
  | none => none
def bn {ρ β : Type} (x : Option (ρ × Mem)) (k : ρ → Mem → Option β) : Option β := match x with
  | some r => k r.1 r.2
  | none => none
theorem gd_some {β : Type} {b : Bool} {k : Option β} {r : β} (h : gd b k = some r) : b = true ∧ k = some r := by
  unfold gd at h
  by_cases q : b = true
  · rw [if_pos q] at h; exact ⟨q, h⟩
  · rw [if_neg q] at h; cases h
theorem gz_some {β : Type} {x : Int32} {k : Option β} {r : β} (h : gz x k = some r) : (x = 0 ∨ x = 1) ∧ k = some r := by
  unfold gz at h
  by_cases q : x = 0 ∨ x = 1
  · rw [if_pos q] at h; exact ⟨q, h⟩
  · rw [if_neg q] at h; cases h
theorem gn_some {β : Type} {x : Int32} {k : Option β} {r : β} (h : gn x k = some r) : ¬ x = 0 ∧ k = some r := by
  unfold gn at h
  by_cases q : x = 0
  · rw [if_pos q] at h; cases h
  · rw [if_neg q] at h; exact ⟨q, h⟩
theorem gnl_some {β : Type} {x : Int64} {k : Option β} {r : β} (h : gnl x k = some r) : ¬ x = 0 ∧ k = some r := by
  unfold gnl at h
  by_cases q : x = 0
  · rw [if_pos q] at h; cases h
  · rw [if_neg q] at h; exact ⟨q, h⟩
theorem gt_some {β : Type} {m : Mem} {a t : Nat} {k : Option β} {r : β} (h : gt m a t k = some r) : mT m a = t ∧ k = some r := by
  unfold gt at h
  by_cases q : mT m a = t
  · rw [if_pos q] at h; exact ⟨q, h⟩
  · rw [if_neg q] at h; cases h
theorem gs_some {β : Type} {o : Option Nat} {k : Nat → Option β} {r : β} (h : gs o k = some r) : ∃ a, o = some a ∧ k a = some r := by
  cases o with
  | none => cases h
  | some a => exact ⟨a, rfl, h⟩
theorem go_some {β : Type} {m : Mem} {o : Option Nat} {t : Nat} {k : Option β} {r : β} (h : go m o t k = some r) : (∀ b, o = some b → mT m b = t) ∧ k = some r := by
  cases o with
  | none => exact ⟨fun b hb => (by cases hb), h⟩
  | some a =>
    have h : (if mT m a = t then k else none) = some r := h
    by_cases q : mT m a = t
    · rw [if_pos q] at h; exact ⟨fun b hb => by cases hb; exact q, h⟩
    · rw [if_neg q] at h; cases h
theorem vb_some {γ β : Type} {x : γ} {k : γ → Option β} {r : β} (h : vb x k = some r) : ∃ y, y = x ∧ k y = some r := ⟨x, rfl, h⟩
theorem bp_some {ρ β : Type} {x : Option ρ} {k : ρ → Option β} {r : β} (h : bp x k = some r) : ∃ y, x = some y ∧ k y = some r := by
  cases x with
  | none => cases h
  | some y => exact ⟨y, rfl, h⟩
theorem bn_some {ρ β : Type} {x : Option (ρ × Mem)} {k : ρ → Mem → Option β} {r : β} (h : bn x k = some r) : ∃ y m1, x = some (y, m1) ∧ k y m1 = some r := by
  cases x with
  | none => cases h
  | some y => exact ⟨y.1, y.2, rfl, h⟩
theorem ite_some {β : Type} {c : Prop} [Decidable c] {A B : Option β} {r : β} (h : (if c then A else B) = some r) : (c ∧ A = some r) ∨ (¬ c ∧ B = some r) := by
  by_cases q : c
  · rw [if_pos q] at h; exact Or.inl ⟨q, h⟩
  · rw [if_neg q] at h; exact Or.inr ⟨q, h⟩
def jmax (x y : Int32) : Int32 := if x < y then y else x
def jmin (x y : Int32) : Int32 := if y < x then y else x
def jmaxL (x y : Int64) : Int64 := if y < x then x else y
/-- a memory in which n ints of a0 from sp on stand in a from dp on -/
def cpI (m : Mem) (a0 sp a dp n : Nat) : Mem := (mT m, mN m, mI m, mL m, mR m, (fun b => if b = a then va_cpy (aI m a0) (aI m a) sp dp n else aI m b), aL m, aR m, mC m, mS m)
def cpok (sp dp n : Int32) (n0 n1 : Nat) : Bool := decide (¬ sp < 0) && decide (¬ dp < 0) && decide (¬ n < 0) && decide (ix sp + ix n ≤ n0) && decide (ix dp + ix n ≤ n1)
