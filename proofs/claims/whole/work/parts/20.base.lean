/-! Layer C, numbers and memory -/
def nj (k : Nat) : Int32 := Int32.ofNat k
theorem nj_int {k : Nat} (h : k < 2147483648) : (nj k).toInt = (k : Int) := Int32.toInt_ofNat_of_lt h
theorem nj_lit (k : Nat) : (no_index (OfNat.ofNat k) : Int32) = nj k := rfl
theorem nj_lt {a b : Nat} (ha : a < 2147483648) (hb : b < 2147483648) : (nj a < nj b) = (a < b) := propext (Int32.ofNat_lt_iff_lt ha hb)
theorem nj_le {a b : Nat} (ha : a < 2147483648) (hb : b < 2147483648) : (nj a ≤ nj b) = (a ≤ b) := propext (Int32.ofNat_le_iff_le ha hb)
theorem nj_inj {a b : Nat} (ha : a < 2147483648) (hb : b < 2147483648) : (nj a = nj b) = (a = b) := propext ⟨fun h => by
  have := congrArg Int32.toInt h
  rw [nj_int ha, nj_int hb] at this
  omega, fun h => h ▸ rfl⟩
theorem nj_lt_l {a k : Nat} (ha : a < 2147483648) (hk : OfNat.ofNat k < 2147483648) : (nj a < (no_index (OfNat.ofNat k) : Int32)) = (a < OfNat.ofNat k) := nj_lt ha hk
theorem nj_le_l {a k : Nat} (ha : a < 2147483648) (hk : OfNat.ofNat k < 2147483648) : (nj a ≤ (no_index (OfNat.ofNat k) : Int32)) = (a ≤ OfNat.ofNat k) := nj_le ha hk
theorem nj_eq_l {a k : Nat} (ha : a < 2147483648) (hk : OfNat.ofNat k < 2147483648) : (nj a = (no_index (OfNat.ofNat k) : Int32)) = (a = OfNat.ofNat k) := nj_inj ha hk
theorem nj_l_lt {a k : Nat} (ha : a < 2147483648) (hk : OfNat.ofNat k < 2147483648) : ((no_index (OfNat.ofNat k) : Int32) < nj a) = (OfNat.ofNat k < a) := nj_lt hk ha
theorem nj_l_le {a k : Nat} (ha : a < 2147483648) (hk : OfNat.ofNat k < 2147483648) : ((no_index (OfNat.ofNat k) : Int32) ≤ nj a) = (OfNat.ofNat k ≤ a) := nj_le hk ha
theorem nj_l_eq {a k : Nat} (ha : a < 2147483648) (hk : OfNat.ofNat k < 2147483648) : ((no_index (OfNat.ofNat k) : Int32) = nj a) = (OfNat.ofNat k = a) := nj_inj hk ha
theorem nj_ne_m1 {a : Nat} (ha : a < 2147483648) : (nj a = -1) = False := eq_false fun h => by
  have := congrArg Int32.toInt h
  rw [nj_int ha] at this
  have e : (-1 : Int32).toInt = -1 := by decide
  omega
theorem nj_nneg {a : Nat} (ha : a < 2147483648) : (nj a < 0) = False := eq_false fun h => by
  rw [nj_lt_l ha (by omega)] at h
  exact Nat.not_lt_zero _ h
theorem nj_add (a b : Nat) : nj a + nj b = nj (a + b) := (Int32.ofNat_add a b).symm
theorem nj_mul (a b : Nat) : nj a * nj b = nj (a * b) := (Int32.ofNat_mul a b).symm
theorem nj_sub {a b : Nat} (h : b ≤ a) : nj a - nj b = nj (a - b) := (Int32.ofNat_sub a b h).symm
theorem nj_add_l (a k : Nat) : nj a + (no_index (OfNat.ofNat k) : Int32) = nj (a + OfNat.ofNat k) := nj_add a k
theorem nj_l_add (a k : Nat) : (no_index (OfNat.ofNat k) : Int32) + nj a = nj (OfNat.ofNat k + a) := nj_add k a
theorem nj_l_mul (a k : Nat) : (no_index (OfNat.ofNat k) : Int32) * nj a = nj (OfNat.ofNat k * a) := nj_mul k a
theorem nj_sub_l {a k : Nat} (h : OfNat.ofNat k ≤ a) : nj a - (no_index (OfNat.ofNat k) : Int32) = nj (a - OfNat.ofNat k) := nj_sub h
theorem nj_m1 {a : Nat} (h : 1 ≤ a) : nj a + (-1) = nj (a - 1) := by
  rw [← nj_sub h, Int32.sub_eq_add_neg]
  rfl
theorem nj_0m1 : nj 0 - 1 = -1 := by decide
theorem nj_0am1 : nj 0 + (-1) = -1 := by decide
theorem ix_nj {a : Nat} (h : a < 2147483648) : ix (nj a) = a := Int32.toNatClampNeg_ofNat_of_lt h
theorem ix_lit {k : Nat} (h : OfNat.ofNat k < 2147483648) : ix (no_index (OfNat.ofNat k) : Int32) = OfNat.ofNat k := Int32.toNatClampNeg_ofNat_of_lt h
theorem nj_ix {x : Int32} (h : 0 ≤ x) : nj (ix x) = x := Int32.ofNat_toNatClampNeg x h
theorem ix_lt (x : Int32) : ix x < 2147483648 := Int32.toNatClampNeg_lt x
theorem inb_nj {a n : Nat} (h : a < 2147483648) : inb (nj a) n = decide (a < n) := by
  have h1 : (nj a).toNatClampNeg = a := ix_nj h
  have h2 : ¬ nj a < 0 := fun q => (nj_nneg h).mp q
  unfold inb
  rw [h1]
  by_cases q : a < n
  · rw [decide_eq_true q]
    exact decide_eq_true (by rintro (z | z); exact h2 z; omega)
  · rw [decide_eq_false q]
    exact decide_eq_false fun z => z (Or.inr (by omega))
theorem inb_lit {k n : Nat} (h : OfNat.ofNat k < 2147483648) : inb (no_index (OfNat.ofNat k) : Int32) n = decide (OfNat.ofNat k < n) := inb_nj h
theorem inb_of {x : Int32} {n : Nat} (h : inb x n = true) : 0 ≤ x ∧ ix x < n := by
  have := of_decide_eq_true (p := ¬ (x < 0 ∨ n ≤ x.toNatClampNeg)) h
  constructor
  · exact Int32.not_lt.mp fun q => this (Or.inl q)
  · exact Nat.not_le.mp fun q => this (Or.inr q)
theorem inb_iff {x : Int32} {n : Nat} : inb x n = true ↔ 0 ≤ x ∧ ix x < n := ⟨inb_of, fun h => decide_eq_true (by
  rintro (q | q)
  · exact absurd h.1 (Int32.not_le.mpr q)
  · exact absurd h.2 (Nat.not_lt.mpr q))⟩
/-- every int that isn't below 0 is some nj -/
theorem nj_of {x : Int32} (h : 0 ≤ x) : ∃ k, k < 2147483648 ∧ x = nj k := ⟨ix x, ix_lt x, (nj_ix h).symm⟩
theorem m1_lt0 : ((-1 : Int32) < 0) = True := eq_true (by decide)
section Mm
variable {m : Mem} {a b f g j k z t n : Nat} {x : Int32} {y : Int64} {o : Option Nat}
theorem k_aI_wI_e : aI (wI m a j x) a = up1 (aI m a) j x := by
  funext q
  show up2 (aI m) a j x a q = _
  unfold up2 up1
  simp
theorem k_aI_wI (h : b ≠ a) : aI (wI m a j x) b = aI m b := by
  funext q
  exact up2_ne fun z => h z.1
theorem k_aI_wL : aI (wL m a j y) = aI m := id rfl
theorem k_aI_wR : aI (wR m a j o) = aI m := id rfl
theorem k_aI_sI : aI (sI m f a x) = aI m := id rfl
theorem k_aI_sL : aI (sL m f a y) = aI m := id rfl
theorem k_aI_sR : aI (sR m f a o) = aI m := id rfl
theorem k_aI_nw : aI (nw m t n z) = zA t (aI m) (mC m) 0 := id rfl
theorem k_aL_wL_e : aL (wL m a j y) a = up1 (aL m a) j y := by
  funext q
  show up2 (aL m) a j y a q = _
  unfold up2 up1
  simp
theorem k_aL_wL (h : b ≠ a) : aL (wL m a j y) b = aL m b := by
  funext q
  exact up2_ne fun z => h z.1
theorem k_aL_wI : aL (wI m a j x) = aL m := id rfl
theorem k_aL_wR : aL (wR m a j o) = aL m := id rfl
theorem k_aL_sI : aL (sI m f a x) = aL m := id rfl
theorem k_aL_sL : aL (sL m f a y) = aL m := id rfl
theorem k_aL_sR : aL (sR m f a o) = aL m := id rfl
theorem k_aL_nw : aL (nw m t n z) = zA t (aL m) (mC m) 0 := id rfl
theorem k_aR_wR_e : aR (wR m a j o) a = up1 (aR m a) j o := by
  funext q
  show up2 (aR m) a j o a q = _
  unfold up2 up1
  simp
theorem k_aR_wR (h : b ≠ a) : aR (wR m a j o) b = aR m b := by
  funext q
  exact up2_ne fun z => h z.1
theorem k_aR_wI : aR (wI m a j x) = aR m := id rfl
theorem k_aR_wL : aR (wL m a j y) = aR m := id rfl
theorem k_aR_sI : aR (sI m f a x) = aR m := id rfl
theorem k_aR_sL : aR (sL m f a y) = aR m := id rfl
theorem k_aR_sR : aR (sR m f a o) = aR m := id rfl
theorem k_aR_nw : aR (nw m t n z) = zA t (aR m) (mC m) none := id rfl
theorem k_mI_sI_e : mI (sI m f a x) f = up1 (mI m f) a x := by
  funext q
  show up2 (mI m) f a x f q = _
  unfold up2 up1
  simp
theorem k_mI_sI (h : g ≠ f) : mI (sI m f a x) g = mI m g := by
  funext q
  exact up2_ne fun z => h z.1
theorem k_mI_wI : mI (wI m a j x) = mI m := id rfl
theorem k_mI_wL : mI (wL m a j y) = mI m := id rfl
theorem k_mI_wR : mI (wR m a j o) = mI m := id rfl
theorem k_mI_sL : mI (sL m f a y) = mI m := id rfl
theorem k_mI_sR : mI (sR m f a o) = mI m := id rfl
theorem k_mI_nw : mI (nw m t n z) = zF t (mI m) (mC m) 0 := id rfl
theorem k_mL_sL_e : mL (sL m f a y) f = up1 (mL m f) a y := by
  funext q
  show up2 (mL m) f a y f q = _
  unfold up2 up1
  simp
theorem k_mL_sL (h : g ≠ f) : mL (sL m f a y) g = mL m g := by
  funext q
  exact up2_ne fun z => h z.1
theorem k_mL_wI : mL (wI m a j x) = mL m := id rfl
theorem k_mL_wL : mL (wL m a j y) = mL m := id rfl
theorem k_mL_wR : mL (wR m a j o) = mL m := id rfl
theorem k_mL_sI : mL (sI m f a x) = mL m := id rfl
theorem k_mL_sR : mL (sR m f a o) = mL m := id rfl
theorem k_mL_nw : mL (nw m t n z) = zF t (mL m) (mC m) 0 := id rfl
theorem k_mR_sR_e : mR (sR m f a o) f = up1 (mR m f) a o := by
  funext q
  show up2 (mR m) f a o f q = _
  unfold up2 up1
  simp
theorem k_mR_sR (h : g ≠ f) : mR (sR m f a o) g = mR m g := by
  funext q
  exact up2_ne fun z => h z.1
theorem k_mR_wI : mR (wI m a j x) = mR m := id rfl
theorem k_mR_wL : mR (wL m a j y) = mR m := id rfl
theorem k_mR_wR : mR (wR m a j o) = mR m := id rfl
theorem k_mR_sI : mR (sI m f a x) = mR m := id rfl
theorem k_mR_sL : mR (sL m f a y) = mR m := id rfl
theorem k_mR_nw : mR (nw m t n z) = zF t (mR m) (mC m) none := id rfl
theorem k_mT_wI : mT (wI m a j x) = mT m := id rfl
theorem k_mT_wL : mT (wL m a j y) = mT m := id rfl
theorem k_mT_wR : mT (wR m a j o) = mT m := id rfl
theorem k_mT_sI : mT (sI m f a x) = mT m := id rfl
theorem k_mT_sL : mT (sL m f a y) = mT m := id rfl
theorem k_mT_sR : mT (sR m f a o) = mT m := id rfl
theorem k_mT_nw : mT (nw m t n z) = up1 (mT m) (mC m) t := id rfl
theorem k_mN_wI : mN (wI m a j x) = mN m := id rfl
theorem k_mN_wL : mN (wL m a j y) = mN m := id rfl
theorem k_mN_wR : mN (wR m a j o) = mN m := id rfl
theorem k_mN_sI : mN (sI m f a x) = mN m := id rfl
theorem k_mN_sL : mN (sL m f a y) = mN m := id rfl
theorem k_mN_sR : mN (sR m f a o) = mN m := id rfl
theorem k_mN_nw : mN (nw m t n z) = up1 (mN m) (mC m) n := id rfl
theorem k_mC_wI : mC (wI m a j x) = mC m := id rfl
theorem k_mC_wL : mC (wL m a j y) = mC m := id rfl
theorem k_mC_wR : mC (wR m a j o) = mC m := id rfl
theorem k_mC_sI : mC (sI m f a x) = mC m := id rfl
theorem k_mC_sL : mC (sL m f a y) = mC m := id rfl
theorem k_mC_sR : mC (sR m f a o) = mC m := id rfl
theorem k_mC_nw : mC (nw m t n z) = mC m + 1 := id rfl
theorem k_mS_wI : mS (wI m a j x) = mS m := id rfl
theorem k_mS_wL : mS (wL m a j y) = mS m := id rfl
theorem k_mS_wR : mS (wR m a j o) = mS m := id rfl
theorem k_mS_sI : mS (sI m f a x) = mS m := id rfl
theorem k_mS_sL : mS (sL m f a y) = mS m := id rfl
theorem k_mS_sR : mS (sR m f a o) = mS m := id rfl
theorem k_mS_nw : mS (nw m t n z) = mS m + z := id rfl
theorem k_zF_1 {β : Type} {g : Nat → Nat → β} {a : Nat} {v : β} : zF 1 g a v = fun f => up1 (g f) a v := id rfl
theorem k_zF_3 {β : Type} {g : Nat → Nat → β} {a : Nat} {v : β} : zF 3 g a v = fun f => up1 (g f) a v := id rfl
theorem k_zF_11 {β : Type} {g : Nat → Nat → β} {a : Nat} {v : β} : zF 11 g a v = fun f => up1 (g f) a v := id rfl
theorem k_zF_32 {β : Type} {g : Nat → Nat → β} {a : Nat} {v : β} : zF 32 g a v = g := id rfl
theorem k_zF_36 {β : Type} {g : Nat → Nat → β} {a : Nat} {v : β} : zF 36 g a v = g := id rfl
theorem k_zA_1 {β : Type} {g : Nat → Nat → β} {a : Nat} {v : β} : zA 1 g a v = g := id rfl
theorem k_zA_3 {β : Type} {g : Nat → Nat → β} {a : Nat} {v : β} : zA 3 g a v = g := id rfl
theorem k_zA_11 {β : Type} {g : Nat → Nat → β} {a : Nat} {v : β} : zA 11 g a v = g := id rfl
theorem k_zA_32 {β : Type} {g : Nat → Nat → β} {a : Nat} {v : β} : zA 32 g a v = up1 g a (fun _ => v) := id rfl
theorem k_zA_36 {β : Type} {g : Nat → Nat → β} {a : Nat} {v : β} : zA 36 g a v = up1 g a (fun _ => v) := id rfl
end Mm
theorem up1_ap {β : Type} (f : Nat → β) (a i : Nat) (x : β) : up1 f a x i = if i = a then x else f i := id rfl
theorem gd_t {β : Type} {b : Bool} {k : Option β} (h : b = true) : gd b k = k := if_pos h
theorem gd_tt {β : Type} {k : Option β} : gd true k = k := id rfl
theorem gt_t {β : Type} {m : Mem} {a t : Nat} {k : Option β} (h : mT m a = t) : gt m a t k = k := if_pos h
theorem gs_s {β : Type} {a : Nat} {k : Nat → Option β} : gs (some a) k = k a := id rfl
theorem go_s {β : Type} {m : Mem} {a t : Nat} {k : Option β} (h : mT m a = t) : go m (some a) t k = k := if_pos h
theorem go_n {β : Type} {m : Mem} {t : Nat} {k : Option β} : go m none t k = k := id rfl
theorem vb_e {γ β : Type} {x : γ} {k : γ → Option β} : vb x k = k x := id rfl
theorem bp_s {ρ β : Type} {x : ρ} {k : ρ → Option β} : bp (some x) k = k x := id rfl
theorem bn_s {ρ β : Type} {x : ρ} {m : Mem} {k : ρ → Mem → Option β} : bn (some (x, m)) k = k x m := id rfl
theorem gz_t {β : Type} {x : Int32} {k : Option β} (h : x = 0 ∨ x = 1) : gz x k = k := if_pos h
theorem gn_t {β : Type} {x : Int32} {k : Option β} (h : ¬ x = 0) : gn x k = k := if_neg h
theorem gnl_t {β : Type} {x : Int64} {k : Option β} (h : ¬ x = 0) : gnl x k = k := if_neg h
/-- a truth as an int -/
def tI (p : Bool) : Int32 := if p then 1 else 0
theorem tI_0 (p : Bool) : (tI p = 0) = (p = false) := by cases p <;> simp [tI]
theorem tI_t : tI true = 1 := rfl
theorem tI_f : tI false = 0 := rfl
/-- v stands in a from j up to n -/
def fil (m : Mem) (a j n : Nat) (v : Int32) : Mem := (mT m, mN m, mI m, mL m, mR m, (fun b => if b = a then (fun i => if j ≤ i ∧ i < n then v else aI m a i) else aI m b), aL m, aR m, mC m, mS m)
theorem k_mT_fil {m : Mem} {a j n : Nat} {v : Int32} : mT (fil m a j n v) = mT m := id rfl
theorem k_mN_fil {m : Mem} {a j n : Nat} {v : Int32} : mN (fil m a j n v) = mN m := id rfl
theorem k_mI_fil {m : Mem} {a j n : Nat} {v : Int32} : mI (fil m a j n v) = mI m := id rfl
theorem k_mL_fil {m : Mem} {a j n : Nat} {v : Int32} : mL (fil m a j n v) = mL m := id rfl
theorem k_mR_fil {m : Mem} {a j n : Nat} {v : Int32} : mR (fil m a j n v) = mR m := id rfl
theorem k_aL_fil {m : Mem} {a j n : Nat} {v : Int32} : aL (fil m a j n v) = aL m := id rfl
theorem k_aR_fil {m : Mem} {a j n : Nat} {v : Int32} : aR (fil m a j n v) = aR m := id rfl
theorem k_mC_fil {m : Mem} {a j n : Nat} {v : Int32} : mC (fil m a j n v) = mC m := id rfl
theorem k_mS_fil {m : Mem} {a j n : Nat} {v : Int32} : mS (fil m a j n v) = mS m := id rfl
theorem k_aI_fil_e {m : Mem} {a j n : Nat} {v : Int32} : aI (fil m a j n v) a = fun i => if j ≤ i ∧ i < n then v else aI m a i := if_pos rfl
theorem k_aI_fil {m : Mem} {a b j n : Nat} {v : Int32} (h : b ≠ a) : aI (fil m a j n v) b = aI m b := if_neg h
