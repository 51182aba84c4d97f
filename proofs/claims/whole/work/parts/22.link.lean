/-! Layer C: the data of the reference, what holds of them, and where the class has them -/
/-- arrays by the reference's numbers; TEXTS; FACTS -/
abbrev Dt : Type := (Nat → Nat → Int32) × Nat × Nat
def msk (tc a j : Nat) : Bool := if a < 8 then false else if a ≤ 14 then decide (j < tc) else if a ≤ 25 then decide (j < 30 * tc) else if a = 26 then decide (j < 120 * tc) else if a ≤ 32 then decide (j < 200 * tc) else if a ≤ 34 then decide (j < 500 * tc) else decide (a = 37 ∨ a = 38 ∨ a = 43 ∨ (44 ≤ a ∧ a ≤ 49))
def dat (r : Mem) : Dt := (fun a j => if msk (ix (mI r 1554 0)) a j then aI r a j else 0, ix (mI r 1554 0), ix (mI r 1601 0))
theorem dat_eq {r r' : Mem} (h1 : mI r' 1554 0 = mI r 1554 0) (h2 : mI r' 1601 0 = mI r 1601 0) (h : ∀ a j, msk (ix (mI r 1554 0)) a j = true → aI r' a j = aI r a j) : dat r' = dat r := by
  unfold dat
  rw [h1, h2]
  refine Prod.ext ?_ rfl
  funext a j
  show (if msk (ix (mI r 1554 0)) a j = true then aI r' a j else 0) = if msk (ix (mI r 1554 0)) a j = true then aI r a j else 0
  by_cases q : msk (ix (mI r 1554 0)) a j = true
  · rw [if_pos q, if_pos q]; exact h a j q
  · rw [if_neg q, if_neg q]
theorem dat_Ch {F A : List Nat} {r r' : Mem} (h : Ch F A nil r r') (hC : 82 ≤ mC r) (hF : (F.all fun f => f != 1554 && f != 1601) = true) (hA : (A.all fun a => a < 8 || a == 35 || a == 36 || (38 < a && a < 43) || 49 < a) = true) : dat r' = dat r := by
  have e : ∀ f, (f = 1554 ∨ f = 1601) → f ∉ F := fun f hf q => by
    have := List.all_eq_true.mp hF f q
    simp at this
    omega
  refine dat_eq (h.2.2.1 1554 (e _ (Or.inl rfl)) 0 (by omega)).1 (h.2.2.1 1601 (e _ (Or.inr rfl)) 0 (by omega)).1 fun a j hm => ?_
  have ha : a ∉ A := fun q => by
    have := List.all_eq_true.mp hA a q
    simp at this
    unfold msk at hm
    grind
  have hlt : a < 82 := by
    unfold msk at hm
    grind
  rw [(h.2.2.2 a ha (fun q => q) (by omega)).1]
/-- TEXTS -/
def WText (D : Dt) (nc : Nat) : Prop := D.2.1 ≤ 24 ∧ D.2.2 ≤ 160 ∧
  (∀ k, k < D.2.1 → (∃ s, s < 4 ∧ D.1 8 k = nj s) ∧ (∃ f, f < D.2.2 ∧ D.1 12 k = nj f ∧ D.1 44 f = D.1 8 k ∧ D.1 45 f = nj k) ∧ (∃ d, d ≤ 139 ∧ D.1 11 k = nj d) ∧ (∃ u, u < nc ∧ D.1 9 k = nj u) ∧
    (D.1 8 k < 2 → D.1 10 k = -1) ∧ (2 ≤ D.1 8 k → ∃ g, g < 8 ∧ D.1 10 k = nj g) ∧
    (∃ j, j ≤ k ∧ D.1 13 k = nj j ∧ D.1 8 j = 0 ∧ D.1 9 j = D.1 9 k ∧ (D.1 8 k = 0 → j = k) ∧ (D.1 8 k ≠ 0 → j < k)) ∧ (∃ n, n ≤ 30 ∧ D.1 14 k = nj n)) ∧
  (∀ k l, k < l → l < D.2.1 → D.1 12 k < D.1 12 l) ∧
  (∀ k l, k < D.2.1 → l < D.2.1 → D.1 8 k = 0 → D.1 8 l = 0 → D.1 9 k = D.1 9 l → k = l)
/-- FACTS -/
def WF1 (D : Dt) (nc i : Nat) : Prop := ∃ s, s ≤ 10 ∧ D.1 44 i = nj s ∧
  (s < 4 → ∃ k, k < D.2.1 ∧ D.1 45 i = nj k ∧ D.1 12 k = nj i) ∧
  (s = 4 → ∃ a b c v, a < 5 ∧ b < 4 ∧ c < 4 ∧ v < 100 ∧ D.1 45 i = nj a ∧ D.1 46 i = nj b ∧ D.1 47 i = nj c ∧ D.1 48 i = nj v) ∧
  (s = 5 → ∃ a b v, a < 8 ∧ b < 140 ∧ v < 10 ∧ D.1 45 i = nj a ∧ D.1 46 i = nj b ∧ D.1 48 i = nj v) ∧
  (s = 6 → ∃ a b, a < 10 ∧ b < 140 ∧ D.1 45 i = nj a ∧ D.1 46 i = nj b ∧ (D.1 48 i = -1 ∨ ∃ v, 1 ≤ v ∧ v ≤ 48 ∧ D.1 48 i = nj v) ∧ ∀ h, h < 48 → -1 ≤ D.1 49 (48 * i + h) ∧ D.1 49 (48 * i + h) ≤ 16) ∧
  (s = 7 ∨ s = 8 → ∃ a b v, a < i ∧ b < nc ∧ v < 10000 ∧ D.1 44 a = 0 ∧ D.1 45 i = nj a ∧ D.1 46 i = nj b ∧ D.1 48 i = nj v) ∧
  (s = 9 → ∃ a b, a < 10 ∧ b < 20 ∧ D.1 45 i = nj a ∧ D.1 46 i = nj b ∧ -99999 ≤ D.1 48 i ∧ D.1 48 i ≤ 99999) ∧
  (s = 10 → ∃ a b c, a < i ∧ b < c ∧ c ≤ 140 ∧ D.1 44 a < 4 ∧ D.1 45 i = nj a ∧ D.1 46 i = nj b ∧ D.1 47 i = nj c)
def WFact (D : Dt) (nc : Nat) : Prop := ∀ i, i < D.2.2 → WF1 D nc i
/-- a FACT's object -/
def FactAt (p : Mem) (D : Dt) (i a : Nat) : Prop := 51 ≤ a ∧ mT p a = 1 ∧ mR p 5 a = some (a + 1) ∧ mT p (a + 1) = 32 ∧ mI p 0 a = D.1 44 i ∧
  (4 ≤ D.1 44 i → mR p 6 a = none ∧ mI p 1 a = D.1 45 i) ∧
  (D.1 44 i = 4 → mI p 2 a = D.1 46 i ∧ mI p 3 a = D.1 47 i ∧ mI p 4 a = D.1 48 i) ∧
  (D.1 44 i = 5 ∨ D.1 44 i = 9 → mI p 2 a = D.1 46 i ∧ mI p 4 a = D.1 48 i) ∧
  (D.1 44 i = 6 → mI p 2 a = D.1 46 i ∧ ∃ n, mN p (a + 1) = n ∧ n ≤ 48 ∧ (D.1 48 i = -1 ∧ n = 0 ∨ D.1 48 i = nj n) ∧ ∀ h, h < n → aI p (a + 1) h = D.1 49 (48 * i + h)) ∧
  (D.1 44 i = 7 ∨ D.1 44 i = 8 → mI p 3 a = D.1 46 i ∧ mI p 4 a = D.1 48 i) ∧
  (D.1 44 i = 10 → mI p 2 a = D.1 46 i ∧ mI p 4 a = D.1 47 i)
/-- a TEXT's object -/
def TextAt (ta ia : Nat → Nat) (p : Mem) (D : Dt) (k t : Nat) : Prop := 51 ≤ t ∧ mT p t = 11 ∧ mI p 1280 t = D.1 8 k ∧ mI p 1281 t = D.1 12 k ∧ mI p 1282 t = D.1 9 k ∧ mI p 1283 t = D.1 10 k ∧ mI p 1284 t = D.1 11 k ∧
  mR p 1285 t = (if D.1 8 k = 0 then none else some (ta (ix (D.1 13 k)))) ∧
  mR p 1286 t = some (t - 1) ∧ mT p (t - 1) = 36 ∧ mN p (t - 1) = ix (D.1 14 k) ∧ (∀ j, j < ix (D.1 14 k) → aR p (t - 1) j = some (ia (30 * k + j))) ∧
  mR p 1288 t = some (t + 1) ∧ mR p 1289 t = some (t + 2) ∧ mR p 1290 t = some (t + 3) ∧ mR p 1291 t = some (t + 4) ∧ mT p (t + 1) = 36 ∧ mT p (t + 2) = 36 ∧ mT p (t + 3) = 32 ∧ mT p (t + 4) = 32 ∧
  (D.1 8 k = 0 ∨ D.1 8 k = 3 → mN p (t + 1) = 60 ∧ mN p (t + 2) = 60 ∧ mN p (t + 3) = 60 ∧ mN p (t + 4) = 60)
/-- where FACTS and TEXTS lie, TEXTS by their 'from' DAYS -/
def LFact (fa ta : Nat → Nat) (p : Mem) (D : Dt) : Prop := mI p 514 13 = nj D.2.2 ∧ ∀ i, i < D.2.2 → aR p 14 i = some (fa i) ∧ FactAt p D i (fa i) ∧ (D.1 44 i < 4 → mR p 6 (fa i) = some (ta (ix (D.1 45 i)))) ∧ ∀ j, j < D.2.2 → fa i = fa j → i = j
def LText (ta ia : Nat → Nat) (p : Mem) (D : Dt) : Prop := mI p 515 13 = nj D.2.1 ∧ (∀ k, k < D.2.1 → TextAt ta ia p D k (ta k)) ∧ (∀ k l, k < D.2.1 → l < D.2.1 → ta k = ta l → k = l) ∧ ∀ k, k < D.2.1 → mN p (ta k + 4) ≤ 60
def LOrd (ta : Nat → Nat) (od : List Nat) (p : Mem) (D : Dt) : Prop := od.length = D.2.1 ∧ (∀ i k, od[i]? = some k → aR p 15 i = some (ta k)) ∧ (∀ k, k ∈ od ↔ k < D.2.1) ∧ od.Pairwise (fun k l => D.1 11 k < D.1 11 l ∨ (D.1 11 k = D.1 11 l ∧ k < l))
