/-! Layer C: the ITEMS of a TEXT, both sides -/
/-- k ITEMS are taken; what is new lies at b0 or behind -/
def Lp (N : Nat) (kd pl : Nat → Nat) (x fc s0 b0 k : Nat) (p r : Mem) (t nm l c : Nat) (it sa ca : Nat → Nat) : Prop := Pi N kd pl x p r t nm l c ∧ 5 ≤ t ∧ k ≤ 30 ∧ mI r 1588 0 = nj x ∧ aI r 14 x = nj k ∧ s0 < 4 ∧ aI r 8 x = nj s0 ∧ mI p 783 22 = nj s0 ∧ mI p 514 13 = nj fc ∧ mI p 782 22 = nj k ∧ b0 ≤ mC p ∧ (∀ j, j < k → It1 p r x fc s0 nm l c j (it j) (sa j) (ca j) ∧ b0 ≤ it j ∧ b0 ≤ sa j ∧ b0 ≤ ca j) ∧ ∀ j j', j < k → j' < k → it j = it j' → j = j'
def Kiz (p p' : Mem) : Prop := Ch ItG [2, 3, 23, 24] nil p p' ∧ ∀ b, b < mC p → ∀ f, 256 ≤ f → f ≤ 268 → mI p' f b = mI p f b ∧ mL p' f b = mL p f b ∧ mR p' f b = mR p f b
/-- both went on over ITEMS -/
def Sg (n z i l c : Nat) (p r p' r' : Mem) (t t' nm nm' : Nat) : Prop := Kip p p' ∧ Kir i l c r r' ∧ mC p ≤ mC p' ∧ mC p' ≤ mC p + n ∧ mS p' + t ≤ mS p + z + t' ∧ t ≤ t' ∧ nm ≤ nm' ∧ (∀ k, k < min nm 60 → aL p' 23 k = aL p 23 k) ∧ (∀ k, k < nm → aL r' 35 k = aL r 35 k) ∧ (mI r' 1551 0 = 0 → mI r 1551 0 = 0)
/-- both failed within the ITEMS -/
def Bl (n z i l c t nm : Nat) (p r p' r' : Mem) : Prop := Fld p' r' ∧ Kiz p p' ∧ mC p ≤ mC p' ∧ mC p' ≤ mC p + n ∧ mS p' + t ≤ mS p + z + 501 ∧ Kir i l c r r' ∧ (∀ k, k < min nm 60 → aL p' 23 k = aL p 23 k) ∧ (∀ k, k < nm → aL r' 35 k = aL r 35 k)
theorem Kip.kiz {p q s : Mem} (h : Kip p q) (k : Kiz q s) : Kiz p s := ⟨Ch.trans (h.1.mono (by decide) (by decide) (fun _ z => z)) k.1, fun b hb f f1 f2 => by
  have y := h.2 b hb f f1 f2
  have z := k.2 b (Nat.lt_of_lt_of_le hb h.1.1.1) f f1 f2
  exact ⟨z.1.trans y.1, z.2.1.trans y.2.1, z.2.2.trans y.2.2⟩⟩
theorem Sg.trans {n z n' z' i l c i1 l1 c1 : Nat} {p r p1 r1 p2 r2 : Mem} {t t1 t2 nm nm1 nm2 : Nat} (h : Sg n z i l c p r p1 r1 t t1 nm nm1) (k : Sg n' z' i1 l1 c1 p1 r1 p2 r2 t1 t2 nm1 nm2) (hi : i ≤ i1) (hl : l ≤ l1) (hc : c ≤ c1) : Sg (n + n') (z + z') i l c p r p2 r2 t t2 nm nm2 := by
  obtain ⟨a1, a2, a3, a4, a5, a6, a7, a8, a9, a10⟩ := h
  obtain ⟨b1, b2, b3, b4, b5, b6, b7, b8, b9, b10⟩ := k
  exact ⟨a1.trans b1, a2.trans b2 hi hl hc, by omega, by omega, by omega, by omega, by omega, fun k hk => (b8 k (by omega)).trans (a8 k hk), fun k hk => (b9 k (by omega)).trans (a9 k hk), fun q => a10 (b10 q)⟩
theorem Sg.bl {n z n' z' i l c i1 l1 c1 : Nat} {p r p1 r1 p2 r2 : Mem} {t t1 nm nm1 : Nat} (h : Sg n z i l c p r p1 r1 t t1 nm nm1) (k : Bl n' z' i1 l1 c1 t1 nm1 p1 r1 p2 r2) (hi : i ≤ i1) (hl : l ≤ l1) (hc : c ≤ c1) : Bl (n + n') (z + z') i l c t nm p r p2 r2 := by
  obtain ⟨a1, a2, a3, a4, a5, a6, a7, a8, a9, a10⟩ := h
  obtain ⟨b1, b2, b3, b4, b5, b6, b7, b8⟩ := k
  exact ⟨b1, a1.kiz b2, by omega, by omega, by omega, a2.trans b6 hi hl hc, fun k hk => (b7 k (by omega)).trans (a8 k hk), fun k hk => (b8 k (by omega)).trans (a9 k hk)⟩
theorem Bl.up {n z n' z' i l c t nm : Nat} {p r p' r' : Mem} (h : Bl n z i l c t nm p r p' r') (hn : n ≤ n') (hz : z ≤ z') : Bl n' z' i l c t nm p r p' r' := ⟨h.1, h.2.1, h.2.2.1, by have := h.2.2.2.1; omega, by have := h.2.2.2.2.1; omega, h.2.2.2.2.2⟩
theorem Sg.up {n z n' z' i l c t t' nm nm' : Nat} {p r p' r' : Mem} (h : Sg n z i l c p r p' r' t t' nm nm') (hn : n ≤ n') (hz : z ≤ z') : Sg n' z' i l c p r p' r' t t' nm nm' := ⟨h.1, h.2.1, h.2.2.1, by have := h.2.2.2.1; omega, by have := h.2.2.2.2.1; omega, h.2.2.2.2.2⟩
theorem Sg.self {n z i l c t nm : Nat} {p r : Mem} : Sg n z i l c p r p r t t nm nm := ⟨Kip.rfl, Kir.rfl, Nat.le_refl _, by omega, by omega, Nat.le_refl _, Nat.le_refl _, fun _ _ => rfl, fun _ _ => rfl, fun q => q⟩
theorem Bi.bl {n i l c t nm : Nat} {p r p' r' : Mem} (h : Bi n (mC p) i l c t nm p r p' r') (h82 : 82 ≤ mC r) : Bl n 0 i l c t nm p r p' r' := ⟨h.1, ⟨h.2.1.1, fun b hb f f1 f2 => h.2.1.2 b hb (by omega) f f1 f2⟩, h.2.2.1, h.2.2.2.1, by have := h.2.2.2.2.1; omega, h.2.2.2.2.2.1.kir h82, h.2.2.2.2.2.2.1, h.2.2.2.2.2.2.2⟩
section Lj
variable {N : Nat} {kd pl : Nat → Nat} {x fc s0 b0 k s l c : Nat} {p r : Mem} {t nm : Nat} {it sa ca : Nat → Nat}
/-- the new ITEM, on both sides, a late fault noted or not -/
theorem item_d (h : Lp N kd pl x fc s0 b0 k p r t nm l c it sa ca) (hk : k < 30) (hs : s ≤ 8) (h2 : 2 ≤ kd t) {K : Int32 → Mem → Option (Int32 × Mem)} {q rr : Mem} (hJ : Pj N kd pl x q rr t nm l c) (hC : Ch [776, 777, 782] [24] nil p q) (ha : mT q (mC p) = 3) (hfr : FrP (mC p) (mC p + 1) (mC p + 2) q) (h256 : mI q 256 (mC p) = nj (s + 32)) (h257 : mI q 257 (mC p) = nj fc) (h266 : mI q 266 (mC p) = 1) (h267 : mI q 267 (mC p) = 0) (h24 : aR q 24 = up1 (aR p 24) k (some (mC p))) (h782 : mI q 782 22 = nj (k + 1)) (hc3 : mC q = mC p + 3) (hm13 : mS q = mS p + 13)
    (hRt : Ch [1551, 1552] [] nil r rr) (hR1 : mC rr = mC r) (hR2 : mS rr = mS r) (hR3 : aI rr = aI r) (hR4 : aL rr = aL r) (h51 : mI rr 1551 0 = 0 → mI r 1551 0 = 0 ∧ mis s0 s = false) :
    (∃ p' r' t' nm' l' c' it' sa' ca', P_Parser_takeItems_125 K (nj k) q = K (nj (k + 1)) p' ∧ R_tellItem_221 (nj s) rr = some ((), r') ∧ Lp N kd pl x fc s0 b0 (k + 1) p' r' t' nm' l' c' it' sa' ca' ∧ Sg 5 13 (30 * x + k) l c p r p' r' t t' nm nm' ∧ l ≤ l' ∧ c ≤ c' ∧ t < t') ∨
    (∃ p' r', P_Parser_takeItems_125 K (nj k) q = some (0, p') ∧ R_tellItem_221 (nj s) rr = some ((), r') ∧ Bl 5 13 (30 * x + k) l c t nm p r p' r') := by
  obtain ⟨hP, ht, hk30, hx, h14, h0, h8, h783, h514, -, hb0, hI, hinj⟩ := h
  have T := hP.T
  have T1 := T.1
  have h82 := hP.p82
  have hx23 : x ≤ 23 := hP.2.2.2.2.2.2.2.2.2
  have hxr : mI rr 1588 0 = nj x := by rw [hRt.i (by decide) (by omega)]; exact hx
  have hKr : Kir (30 * x + k) l c r rr := ⟨hRt.mono (by decide) (fun _ w => absurd w List.not_mem_nil) (fun _ w => w), hR1, hR2, fun _ _ => by rw [hR3]; exact ⟨rfl, rfl⟩, fun _ _ _ _ _ => by rw [hR3], fun _ _ _ _ _ => by rw [hR3], fun _ _ => by rw [hR3], fun _ _ => by rw [hR3]⟩
  have hKq : Kip p q := ⟨hC.mono (by decide) (by decide) (fun _ w => w), fun b hb f f1 f2 => hC.2.2.1 f (by simp only [List.mem_cons, List.not_mem_nil, or_false]; omega) b hb⟩
  have e23 : aL q 23 = aL p 23 := hC.al (by decide) (fun w => w) (by omega)
  rcases item_c (K := K) (a := mC p) hJ h2 ht hk hs T1 ha hfr h256 (by rw [h24]; exact up1_eq) hxr (by rw [hR3]; exact h14) with ⟨p', r', t', nm', l', c', sA, cA, b1, b2, b3, b4, b5, b6, b7, b8, b9, b10⟩ | ⟨p', r', b1, b2, b3⟩
  · left
    obtain ⟨s1, s2, s3, s4, s5, s6, s7, s8, s9, s10⟩ := b4
    have hKp : Kip p p' := ⟨Ch.trans hKq.1 (s1.1.mono (fun _ w => List.mem_cons_of_mem _ w) (by decide) (fun _ w => w)), fun b hb f f1 f2 => by
      have y := hKq.2 b hb f f1 f2
      have w := s1.2 b (by omega) (by omega) f f1 f2
      exact ⟨w.1.trans y.1, w.2.1.trans y.2.1, w.2.2.trans y.2.2⟩⟩
    have hKrr : Kir (30 * x + k) l c r (wI r' 14 x (nj (k + 1))) := (hKr.trans (s2.kir (by omega)) (Nat.le_refl _) (Nat.le_refl _) (Nat.le_refl _)).w14 (by omega)
    have h0' : mI (wI r' 14 x (nj (k + 1))) 1551 0 = 0 → mI r 1551 0 = 0 ∧ mis s0 s = false := fun w => h51 (s10 (by rw [k_mI_wI] at w; exact w))
    have hmR : 82 ≤ mC rr := by omega
    have e24 : aR p' 24 = up1 (aR p 24) k (some (mC p)) := by rw [s1.1.ar (by decide) (fun w => w) (by omega)]; exact h24
    have eq : ∀ f, f ∉ ItF → mI p' f (mC p) = mI q f (mC p) := fun f hf => s1.1.i hf (by omega)
    refine ⟨p', wI r' 14 x (nj (k + 1)), t', nm', l', c', up1 it k (mC p), up1 sa k sA, up1 ca k cA, b1, b2, ⟨b3, by omega, by omega, ?_, ?_, h0, ?_, ?_, ?_, ?_, by omega, fun j hj => ?_, fun j j' hj hj' e => ?_⟩, ⟨hKp, hKrr, by omega, by omega, by omega, by omega, s7, fun u hu => by rw [s8 u hu, e23], fun u hu => by rw [k_aL_wI, s9 u hu, hR4], fun w => (h0' w).1⟩, b5, b6, b7⟩
    · rw [k_mI_wI, s2.1.i (by decide) (by omega)]; exact hxr
    · rw [k_aI_wI_e, up1_ap, if_pos rfl]
    · rw [k_aI_wI (by omega), s2.1.ai (by decide) (fun w => w) (by omega), hR3]; exact h8
    · rw [s1.1.i (by decide) (by omega), hC.i (by decide) (by omega)]; exact h783
    · rw [s1.1.i (by decide) (by omega), hC.i (by decide) (by omega)]; exact h514
    · rw [s1.1.i (by decide) (by omega)]; exact h782
    · by_cases e : j = k
      · subst e
        rw [up1_eq, up1_eq, up1_eq]
        refine ⟨⟨by rw [e24]; exact up1_eq, ⟨l, l', c', s, b9, Nat.le_refl _, Nat.le_refl _, by rw [k_aI_wI (by omega)]; exact b10, fun w => ?_⟩, by rw [eq 257 (by decide)]; exact h257, by rw [eq 266 (by decide)]; exact h266, by rw [eq 267 (by decide)]; exact h267⟩, by omega, by omega, by omega⟩
        have hm := (h0' w).2
        unfold mis at hm
        by_cases z : s0 = 0 ∨ s0 = 3
        · rw [if_pos z] at hm
          have := of_decide_eq_false hm
          exact ⟨fun _ => by omega, fun _ => by omega⟩
        · rw [if_neg z] at hm
          have := of_decide_eq_false hm
          exact ⟨fun _ => by omega, fun _ => by omega⟩
      · rw [up1_ne e, up1_ne e, up1_ne e]
        obtain ⟨g1, g2⟩ := hI j (by omega)
        exact ⟨g1.keep T hKp hKrr (fun w => (h0' w).1) (by omega) (by rw [e24, up1_ne e]) b5 b6 (by omega) s7, g2⟩
    · have hlt : ∀ u, u < k → it u < mC p := fun u hu => by
        obtain ⟨⟨-, ⟨lo, hi, cc, ss, g1, -⟩, -⟩, -⟩ := hI u hu
        exact T.lt (by rw [g1.1.2.2.2.1]; decide)
      by_cases z1 : j = k
      · by_cases z2 : j' = k
        · omega
        · rw [z1, up1_eq, up1_ne z2] at e
          have := hlt j' (by omega)
          omega
      · by_cases z2 : j' = k
        · rw [z2, up1_eq, up1_ne z1] at e
          have := hlt j (by omega)
          omega
        · rw [up1_ne z1, up1_ne z2] at e
          exact hinj j j' (by omega) (by omega) e
  · right
    obtain ⟨s1, s2, s3, s4, s5, s6, s7, s8⟩ := b3
    refine ⟨p', r', b1, b2, s1, ⟨Ch.trans (hKq.1.mono (by decide) (by decide) (fun _ w => w)) s2.1, fun b hb f f1 f2 => ?_⟩, by omega, by omega, by omega, hKr.trans (s6.kir (by omega)) (Nat.le_refl _) (Nat.le_refl _) (Nat.le_refl _), fun u hu => by rw [s7 u hu, e23], fun u hu => by rw [s8 u hu, hR4]⟩
    have y := hKq.2 b hb f f1 f2
    have w := s2.2 b (by omega) (by omega) f f1 f2
    exact ⟨w.1.trans y.1, w.2.1.trans y.2.1, w.2.2.trans y.2.2⟩
end Lj
