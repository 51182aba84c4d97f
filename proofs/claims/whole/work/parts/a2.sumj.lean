/-! Layer C: an E of an ITEM -/
/-- where both are: at token t, without a FAULT so far -/
def Ps (N : Nat) (kd pl : Nat → Nat) (p r : Mem) (t : Nat) : Prop := Toks p r N kd pl ∧ t < N ∧ mI p 779 22 = nj t ∧ mI r 1547 0 = nj t ∧ mI r 1549 0 = 0 ∧ mI r 1548 0 = 0 ∧ mI p 773 22 = 0 ∧ mI p 774 22 = -1 ∧ Top p ∧ 82 ≤ mC r ∧ mT p 2 = 32 ∧ mN p 2 = 500
def ItF : List Nat := [128, 129, 130, 131, 132, 134, 136, 779, 776, 777, 771, 778, 780, 258, 259, 260, 261, 262, 263, 264, 265]
/-- what taking a part of the ITEM at a may change -/
def Ci (a : Nat) (p p' : Mem) : Prop := Ch ItF [2, 3, 23] nil p p' ∧ ∀ b, b < mC p → b ≠ a → ∀ f, 256 ≤ f → f ≤ 268 → mI p' f b = mI p f b ∧ mL p' f b = mL p f b ∧ mR p' f b = mR p f b
def ItG : List Nat := [773, 774, 782, 783, 784, 785, 786, 128, 129, 130, 131, 132, 134, 136, 779, 776, 777, 771, 778, 780, 256, 257, 258, 259, 260, 261, 262, 263, 264, 265, 266, 267]
/-- and where it fails -/
def Cz (a : Nat) (p p' : Mem) : Prop := Ch ItG [2, 3, 23, 24] nil p p' ∧ ∀ b, b < mC p → b ≠ a → ∀ f, 256 ≤ f → f ≤ 268 → mI p' f b = mI p f b ∧ mL p' f b = mL p f b ∧ mR p' f b = mR p f b
section Ci
variable {a : Nat} {p q s : Mem}
theorem Ci.rfl : Ci a p p := ⟨Ch.rfl, fun _ _ _ _ _ _ => ⟨by trivial, by trivial, by trivial⟩⟩
theorem Ci.trans (h : Ci a p q) (k : Ci a q s) : Ci a p s := ⟨Ch.trans h.1 k.1, fun b hb hn f h1 h2 => by
  have x := h.2 b hb hn f h1 h2
  have y := k.2 b (Nat.lt_of_lt_of_le hb h.1.1.1) hn f h1 h2
  exact ⟨y.1.trans x.1, y.2.1.trans x.2.1, y.2.2.trans x.2.2⟩⟩
theorem Ci.cz (h : Ci a p q) : Cz a p q := ⟨h.1.mono (by decide) (by decide) (fun _ z => z), h.2⟩
theorem Cz.trans (h : Cz a p q) (k : Cz a q s) : Cz a p s := ⟨Ch.trans h.1 k.1, fun b hb hn f f1 f2 => by
  have y := h.2 b hb hn f f1 f2
  have z := k.2 b (Nat.lt_of_lt_of_le hb h.1.1.1) hn f f1 f2
  exact ⟨z.1.trans y.1, z.2.1.trans y.2.1, z.2.2.trans y.2.2⟩⟩
theorem cz_of {F A : List Nat} (h : Ch F A nil p q) (h1 : ∀ f, f ∈ F → f ∈ ItG) (h2 : ∀ f, f ∈ A → f ∈ [2, 3, 23, 24]) (h3 : (F.all fun f => decide (f < 256 ∨ 268 < f)) = true) : Cz a p q := ⟨h.mono h1 h2 (fun _ z => z), fun b hb _ f f1 f2 => h.2.2.1 f (fun w => by
  have := of_decide_eq_true (List.all_eq_true.mp h3 f w)
  omega) b hb⟩
theorem Cg.cz (h : Cg p q) : Cz a p q := cz_of h.1 (by decide) (by decide) (by decide)
theorem Cf.ci (h : Cf p q) : Ci a p q := ⟨h.1.mono (by decide) (by decide) (fun _ z => z), fun b hb _ f h1 h2 => h.1.2.2.1 f (by
  unfold FmF
  simp only [List.mem_cons, List.not_mem_nil, or_false]
  omega) b hb⟩
theorem Ci.sI {f b : Nat} {x : Int32} (h : Ci a p q) (hf : f ∈ ItF) (hb : b = a ∨ f < 256 ∨ 268 < f) : Ci a p (sI q f b x) := ⟨h.1.sI hf, fun b' hb' hn g h1 h2 => by
  have y := h.2 b' hb' hn g h1 h2
  refine ⟨?_, y.2⟩
  have e : up2 (mI q) f b x g b' = mI q g b' := up2_ne fun z => by omega
  exact e.trans y.1⟩
theorem Ci.sL {f : Nat} {x : Int64} (h : Ci a p q) (hf : f ∈ ItF) : Ci a p (sL q f a x) := ⟨h.1.sL hf, fun b' hb' hn g h1 h2 => by
  have y := h.2 b' hb' hn g h1 h2
  refine ⟨y.1, ?_, y.2.2⟩
  have e : up2 (mL q) f a x g b' = mL q g b' := up2_ne fun z => by omega
  exact e.trans y.2.1⟩
theorem Ci.sR {f : Nat} {x : Option Nat} (h : Ci a p q) (hf : f ∈ ItF) : Ci a p (sR q f a x) := ⟨h.1.sR hf, fun b' hb' hn g h1 h2 => by
  have y := h.2 b' hb' hn g h1 h2
  refine ⟨y.1, y.2.1, ?_⟩
  have e : up2 (mR q) f a x g b' = mR q g b' := up2_ne fun z => by omega
  exact e.trans y.2.2⟩
theorem Ci.wL {b j : Nat} {x : Int64} (h : Ci a p q) (hb : b ∈ [2, 3, 23]) : Ci a p (wL q b j x) := ⟨h.1.wL (Or.inl hb), h.2⟩
end Ci
/-- the class lays a formula down -/
theorem made_e {p : Mem} {S : List Int32} (T : Top p) (h1 : mT p 2 = 32) (h2 : mN p 2 = 500) (h3 : mI p 134 1 = nj S.length) (h4 : Sq (aI p 2) S) (hS : S.length < 500) :
    ∃ p', P_Formula_made p = some (some (mC p), p') ∧ Ch [] [] nil p p' ∧ mC p' = mC p + 1 ∧ mS p' = mS p + S.length ∧ Arr p' (mC p) S ∧ mI p' = mI p ∧ mL p' = mL p ∧ mR p' = mR p ∧ Top p' := by
  have T1 := T.1
  unfold P_Formula_made J_copyOf
  have eN : Int32.ofNat 500 = nj 500 := rfl
  rw [gs_s, gt_t h1, h2, h3, eN, if_neg (by rw [nj_inj (by omega) (by omega)]; omega), inb_nj (by omega), gd_t (decide_eq_true (by omega)), vb_e, ix_nj (by omega)]
  have t2 : mT (nw p 32 S.length S.length) 2 = 32 := by rw [k_mT_nw, up1_ap, if_neg (by omega)]; exact h1
  have n2 : mN (nw p 32 S.length S.length) 2 = 500 := by rw [k_mN_nw, up1_ap, if_neg (by omega)]; exact h2
  have nc : mN (nw p 32 S.length S.length) (mC p) = S.length := by rw [k_mN_nw, up1_ap, if_pos rfl]
  have ej : jmin (nj 500) (nj S.length) = nj S.length := by
    unfold jmin
    rw [if_pos (by rw [nj_lt (by omega) (by omega)]; exact hS)]
  rw [gt_t t2, n2, nc, eN, ej]
  have ok : cpok 0 0 (nj S.length) 500 S.length = true := by
    unfold cpok
    have e0 : ix (0 : Int32) = 0 := rfl
    rw [e0, ix_nj (by omega)]
    simp only [Bool.and_eq_true, decide_eq_true_eq]
    refine ⟨⟨⟨⟨by decide, by decide⟩, fun w => (nj_nneg (a := S.length) (by omega)).mp w⟩, by omega⟩, by omega⟩
  rw [gd_t ok, vb_e, bn_s, ix_nj (by omega), show ix (0 : Int32) = 0 from rfl]
  refine ⟨_, rfl, ⟨⟨by show mC p ≤ mC p + 1; omega, fun b hb => ?_⟩, fun b hb => ⟨?_, ?_⟩, fun f _ b _ => ⟨rfl, rfl, rfl⟩, fun b _ _ hb => ⟨?_, up1_ne (by omega), up1_ne (by omega)⟩⟩, rfl, rfl, ⟨?_, ?_, by omega, fun j v hj => ?_⟩, rfl, rfl, rfl, ?_⟩
  · show mT (nw p 32 S.length S.length) b = mT p b
    have hb' : mC p + 1 ≤ b := hb
    rw [k_mT_nw, up1_ap, if_neg (by omega)]
  · show mT (nw p 32 S.length S.length) b = mT p b
    rw [k_mT_nw, up1_ap, if_neg (by omega)]
  · show mN (nw p 32 S.length S.length) b = mN p b
    rw [k_mN_nw, up1_ap, if_neg (by omega)]
  · rw [kc_aI (by omega), k_aI_nw, zA_ne (by omega)]
  · show mT (nw p 32 S.length S.length) (mC p) = 32
    rw [k_mT_nw, up1_ap, if_pos rfl]
  · exact nc
  · rw [kc_aI_e, k_aI_nw, zA_ne (by omega)]
    have hl : j < S.length := (List.getElem?_eq_some_iff.mp hj).1
    unfold va_cpy
    rw [if_pos (by omega)]
    have := h4 j v hj
    simpa using this
  · refine ⟨by show 51 ≤ mC p + 1; omega, fun b hb => ?_⟩
    have hb' : mC p + 1 ≤ b := hb
    show mT (nw p 32 S.length S.length) b = 0
    rw [k_mT_nw, up1_ap, if_neg (by omega)]
    exact T.2 b (by omega)
