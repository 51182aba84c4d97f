/-! Layer C: builds with what it remembers; both orders are one -/
def infO (D : Dt) (d f n : Nat) : Nat → Bool := fun k => inF D k (nj d) (nj f) n
/-- rows and fates of a DAY at a FIRM as known by n -/
noncomputable def bQ (D : Dt) (d f n : Nat) : BSt := bL D (vS D f d n 0) (infO D d f n) (lst D (infO D d f n) (d + 1) 0)
def Bt (D : Dt) (d f n : Nat) (r : Mem) : Prop := Bu2 D (vS D f d n 0) (infO D d f n) (lst D (infO D d f n) (d + 1) 0) r
def BCache (D : Dt) (r : Mem) : Prop := mI r 1612 0 = -1 ∨ ∃ d f n, d < 140 ∧ f < 8 ∧ n ≤ D.2.2 ∧ mI r 1612 0 = nj d ∧ mI r 1613 0 = nj f ∧ mI r 1614 0 = nj n ∧ Bt D d f n r
section Bx
variable {r r' : Mem} {D : Dt} {nc : Nat}
theorem inF_from (W : WText D nc) {k d f n : Nat} (hk : k < D.2.1) (hd : d < 140) (h : infO D d f n k = true) : ∃ g, g < d + 1 ∧ D.1 11 k = nj g := by
  obtain ⟨g, hg, eg⟩ := (W.2.2.1 k hk).2.2.1
  unfold infO inF at h
  simp only [Bool.and_eq_true, decide_eq_true_eq] at h
  have := h.1.1.2
  rw [eg, nj_le (by omega) (by omega)] at this
  exact ⟨g, by omega, eg⟩
theorem mem_lst (W : WText D nc) {k d f n : Nat} (hk : k < D.2.1) (hd : d < 140) (h : vq D (infO D d f n) k = true) : k ∈ lst D (infO D d f n) (d + 1) 0 := by
  have hin : infO D d f n k = true := by
    unfold vq at h
    simp only [Bool.and_eq_true] at h
    exact h.1
  obtain ⟨g, hg, eg⟩ := inF_from W hk hd hin
  unfold lst
  rw [List.mem_append, List.mem_flatMap]
  refine Or.inl ⟨g, List.mem_range.mpr hg, List.mem_filter.mpr ⟨List.mem_range.mpr hk, ?_⟩⟩
  rw [h, decide_eq_true eg]
  rfl
theorem lst_sorted {inf : Nat → Bool} {fr : Nat} (hfr : fr ≤ 140) : (lst D inf fr 0).Pairwise (fun k l => D.1 11 k < D.1 11 l ∨ (D.1 11 k = D.1 11 l ∧ k < l)) := by
  unfold lst
  rw [List.range_zero, List.filter_nil, List.append_nil, List.pairwise_flatMap]
  refine ⟨fun g _ => ?_, ?_⟩
  · refine (List.pairwise_lt_range.filter _).imp_of_mem fun {a b} ha hb hab => Or.inr ⟨?_, hab⟩
    have h1 := (List.mem_filter.mp ha).2
    have h2 := (List.mem_filter.mp hb).2
    simp only [Bool.and_eq_true, decide_eq_true_eq] at h1 h2
    rw [h1.2, h2.2]
  · refine List.pairwise_lt_range.imp_of_mem fun {a b} ha hb hab x hx y hy => Or.inl ?_
    have h1 := (List.mem_filter.mp hx).2
    have h2 := (List.mem_filter.mp hy).2
    simp only [Bool.and_eq_true, decide_eq_true_eq] at h1 h2
    have := List.mem_range.mp ha
    have := List.mem_range.mp hb
    rw [h1.2, h2.2, nj_lt (by omega) (by omega)]
    exact hab
theorem order_eq (W : WText D nc) {od : List Nat} {d f n : Nat} (hd : d < 140) (hm : ∀ k, k ∈ od ↔ k < D.2.1) (hs : od.Pairwise (fun k l => D.1 11 k < D.1 11 l ∨ (D.1 11 k = D.1 11 l ∧ k < l))) : od.filter (isV D (infO D d f n)) = (lst D (infO D d f n) (d + 1) 0).filter (pf D (infO D d f n)) := by
  refine sorted_eq (R := fun k l => D.1 11 k < D.1 11 l ∨ (D.1 11 k = D.1 11 l ∧ k < l)) (fun a h => ?_) (fun a b h1 h2 => ?_) _ _ (hs.filter _) ((lst_sorted (by omega)).filter _) fun x => ?_
  · rcases h with h | h
    · exact absurd h Int32.lt_irrefl
    · omega
  · rcases h1 with h1 | h1 <;> rcases h2 with h2 | h2
    · grind
    · rw [h2.1] at h1; exact absurd h1 Int32.lt_irrefl
    · rw [h1.1] at h2; exact absurd h2 Int32.lt_irrefl
    · omega
  · rw [List.mem_filter, List.mem_filter, hm]
    constructor
    · rintro ⟨h1, h2⟩
      unfold isV at h2
      rw [Bool.and_eq_true] at h2
      exact ⟨mem_lst W h1 hd h2.1, h2.2⟩
    · rintro ⟨h1, h2⟩
      obtain ⟨y1, y2, -⟩ := lst_mem h1 (by omega)
      refine ⟨y1, ?_⟩
      unfold isV
      rw [Bool.and_eq_true]
      exact ⟨y2, h2⟩
theorem bS_bQ (W : WText D nc) {od : List Nat} {d f n : Nat} (hd : d < 140) (hm : ∀ k, k ∈ od ↔ k < D.2.1) (hs : od.Pairwise (fun k l => D.1 11 k < D.1 11 l ∨ (D.1 11 k = D.1 11 l ∧ k < l))) : bS D (vS D f d n 0) (infO D d f n) od = bQ D d f n := by
  unfold bS bQ bL
  rw [order_eq W hd hm hs]
theorem R_builds_25_e (hD : dat r = D) (hC : 82 ≤ mC r) (h54 : mI r 1554 0 = nj D.2.1) (W : WText D nc) (Wf : WFact D nc) (Wi : WItems D nc) (hn60 : nc ≤ 60) {d f n : Nat} (hd : d < 140) (hf : f < 8) (hn : n ≤ D.2.2) : ∃ r', R_builds_25 (nj d) (nj f) (nj n) r = some ((), r') ∧ Bt D d f n r' ∧ mI r' 1612 0 = nj d ∧ mI r' 1613 0 = nj f ∧ mI r' 1614 0 = nj n ∧ Ch [1610, 1612, 1613, 1614] [50, 51, 52, 53, 54, 55, 56, 57, 58] nil r r' ∧ mC r' = mC r := by
  have h24 := W.1
  have c0 : Ch [1610, 1612, 1613, 1614] [50, 51, 52, 53, 54, 55, 56, 57, 58] nil r (sI (sI (sI r 1612 0 (nj d)) 1613 0 (nj f)) 1614 0 (nj n)) := ((Ch.rfl.sI (by decide)).sI (by decide)).sI (by decide)
  have hC0 : mC (sI (sI (sI r 1612 0 (nj d)) 1613 0 (nj f)) 1614 0 (nj n)) = mC r := by simp only [k_mC_sI]
  obtain ⟨r1, a1, a2, a3, a4⟩ := R_builds_43_e (vs := vS D f d n 0) (inf := infO D d f n) W Wf Wi hn60 hn (fun _ _ => rfl) D.2.1 0 FU (sI (sI (sI r 1612 0 (nj d)) 1613 0 (nj f)) 1614 0 (nj n)) (by omega) (by unfold FU; omega) (by rw [← hD]; exact dat_Ch c0 hC (by decide) (by decide)) (by omega) (by rw [c0.i (by decide) (by omega)]; exact h54) (fun _ h => absurd h (by omega))
  have hD1 : dat r1 = D := by
    rw [← hD]
    rw [dat_Ch a3 (by omega) (by decide) (by decide)]
    exact dat_Ch c0 hC (by decide) (by decide)
  have hB0 : Bu2 D (vS D f d n 0) (infO D d f n) (lst D (infO D d f n) 0 0) r1 := by
    have e0 : lst D (infO D d f n) 0 0 = [] := rfl
    rw [e0]
    refine ⟨fun k hk => (a2 k hk).1, fun k hk => (a2 k hk).2.1, fun k j hk hj => ?_⟩
    rw [(a2 k hk).2.2 j hj]
    simp only [List.not_mem_nil, if_false]
    rfl
  obtain ⟨r', b1, b2, b3, b4⟩ := R_builds_194_e W Wi hn60 hd hf hn (vs := vS D f d n 0) (inf := infO D d f n) rfl (fun _ _ => rfl) (d + 1) 0 FU r1 (by omega) (by unfold FU; omega) hD1 (by omega) (by rw [a3.i (by decide) (by omega), c0.i (by decide) (by omega)]; exact h54) hB0
  have c1 : Ch [1610, 1612, 1613, 1614] [50, 51, 52, 53, 54, 55, 56, 57, 58] nil r r' := (c0.trans (a3.mono (by decide) (by decide) (fun _ h => h))).trans (b3.mono (by decide) (by decide) (fun _ h => h))
  have cf : ∀ g, g ≠ 1610 → mI r' g 0 = mI (sI (sI (sI r 1612 0 (nj d)) 1613 0 (nj f)) 1614 0 (nj n)) g 0 := fun g hg => by rw [b3.i (by simp; exact hg) (by omega), a3.i (by simp; exact hg) (by omega)]
  refine ⟨r', ?_, b2, ?_, ?_, ?_, c1, by omega⟩
  · unfold R_builds_25
    rw [vb_e, vb_e, vb_e]
    refine Eq.trans a1 ?_
    exact b1
  · rw [cf 1612 (by omega), k_mI_sI (by omega), k_mI_sI (by omega), k_mI_sI_e, up1_eq]
  · rw [cf 1613 (by omega), k_mI_sI (by omega), k_mI_sI_e, up1_eq]
  · rw [cf 1614 (by omega), k_mI_sI_e, up1_eq]
/-- builds, remembered or not -/
theorem R_builds_e (hB : BCache D r) (hD : dat r = D) (hC : 82 ≤ mC r) (h54 : mI r 1554 0 = nj D.2.1) (W : WText D nc) (Wf : WFact D nc) (Wi : WItems D nc) (hn60 : nc ≤ 60) {d f n : Nat} (hd : d < 140) (hf : f < 8) (hn : n ≤ D.2.2) : ∃ r', R_builds (nj d) (nj f) (nj n) r = some ((), r') ∧ Bt D d f n r' ∧ mI r' 1612 0 = nj d ∧ mI r' 1613 0 = nj f ∧ mI r' 1614 0 = nj n ∧ Ch [1610, 1612, 1613, 1614] [50, 51, 52, 53, 54, 55, 56, 57, 58] nil r r' ∧ mC r' = mC r := by
  have h160 := W.2.1
  have R := R_builds_25_e hD hC h54 W Wf Wi hn60 hd hf hn
  unfold R_builds
  by_cases c1 : mI r 1612 0 = nj d
  · rw [if_pos c1]
    by_cases c2 : mI r 1613 0 = nj f
    · rw [if_pos c2]
      by_cases c3 : mI r 1614 0 = nj n
      · rw [if_pos c3]
        rcases hB with h | ⟨d', f', n', h1, h2, h3, h4, h5, h6, h7⟩
        · rw [c1, nj_ne_m1 (by omega)] at h; exact h.elim
        · rw [c1, nj_inj (by omega) (by omega)] at h4
          rw [c2, nj_inj (by omega) (by omega)] at h5
          rw [c3, nj_inj (by omega) (by omega)] at h6
          subst h4 h5 h6
          exact ⟨r, rfl, h7, c1, c2, c3, Ch.rfl, rfl⟩
      · rw [if_neg c3]; exact R
    · rw [if_neg c2]; exact R
  · rw [if_neg c1]; exact R
/-- the fate of an ITEM, as the reference has it -/
theorem Bt_fate (W : WText D nc) {d f n k j : Nat} (hd : d < 140) (h : Bt D d f n r) (hk : k < D.2.1) (hj : j < ix (D.1 14 k)) : aI r 58 (30 * k + j) = if infO D d f n k && (isW D k || pf D (infO D d f n) k) then (bQ D d f n).2 (30 * k + j) else 1 := by
  rw [h.2.2 k j hk hj]
  cases hin : infO D d f n k with
  | false => rfl
  | true =>
    cases hw : isW D k with
    | true => rfl
    | false =>
      have hv : vq D (infO D d f n) k = true := by unfold vq; rw [hin, hw]; rfl
      have hm := mem_lst W hk hd hv
      cases hp : pf D (infO D d f n) k with
      | true => simp only [hm, if_true]; rfl
      | false => simp only [hm, if_true]; rfl
end Bx
