/-! Layer C: the ways to part, as both sides go through them -/
/-- one more than the greatest group of the first n -/
def mxL (L : List Nat) : Nat → Nat
  | 0 => 0
  | n + 1 => max (mxL L n) (L.getD n 0 + 1)
/-- group i is one more, those after it are 0 -/
def bmp (s : Nat) (L : List Nat) (i : Nat) : List Nat := (List.range s).map fun j => if j < i then L.getD j 0 else if j = i then L.getD j 0 + 1 else 0
def nxA (s : Nat) (L : List Nat) : Nat → Option (List Nat)
  | 0 => none
  | i + 1 => if mxL L (i + 1) ≤ L.getD (i + 1) 0 then nxA s L i else some (bmp s L (i + 1))
def endsIn (s : Nat) : Nat → List Nat → Bool
  | 0, _ => false
  | n + 1, L => match nxA s L (s - 1) with
    | none => true
    | some L' => endsIn s n L'
theorem ends_all : ∀ s, s < 8 → 0 < s → endsIn s 877 (List.replicate s 0) = true := by decide +kernel
