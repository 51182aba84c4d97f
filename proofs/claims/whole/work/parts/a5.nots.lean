/-! Layer C: a LIT of a COND: its nots; what it is made of -/
def rwD (r : Mem) (x : Nat) : Dt := (fun a j => aI r a j, x + 1, 0)
theorem segS_e {r : Mem} {x c : Nat} {L : List (Nat × Nat)} (h : Seg r c L) : segS (rwD r x) c (c + L.length) = L.map enN := by
  unfold segS
  rw [show c + L.length - c = L.length by omega]
  apply List.ext_getElem?
  intro j
  rw [List.getElem?_map, List.getElem?_map]
  by_cases z : j < L.length
  · have e : L[j]? = some L[j] := List.getElem?_eq_getElem z
    obtain ⟨h1, h2⟩ := h j _ e
    rw [e, List.getElem?_range' z]
    show some (encC (aI r 33 (c + 1 * j)) (aI r 34 (c + 1 * j))) = some (enN L[j])
    rw [show c + 1 * j = c + j by omega, h1, h2]
    rfl
  · rw [List.getElem?_eq_none (by simp; omega), List.getElem?_eq_none (by omega)]
    rfl
theorem wfC_e {r : Mem} {x : Nat} : ∀ (L : List (Nat × Nat)) (c d : Nat), Seg r c L → wfL L d 1 → wfC (rwD r x) c L.length d
  | [], c, d, _, h => h
  | (k, v) :: L, c, d, hs, h => by
    have h0 := hs 0 (k, v) rfl
    have hs' : Seg r (c + 1) L := fun j kv hj => by
      have := hs (j + 1) kv hj
      rw [show c + (j + 1) = c + 1 + j by omega] at this
      exact this
    obtain ⟨h1, h2⟩ := h
    refine ⟨h1, ?_⟩
    show ((aI r 33 c = 0 ∧ (∃ v, v ≤ 9999 ∧ aI r 34 c = nj v) ∧ wfC (rwD r x) (c + 1) L.length (d + 1)) ∨ (aI r 33 c = 1 ∧ (∃ v, v < 12 ∧ aI r 34 c = nj v) ∧ wfC (rwD r x) (c + 1) L.length (d + 1)) ∨ ((∃ k, 2 ≤ k ∧ k ≤ 5 ∧ aI r 33 c = nj k) ∧ 2 ≤ d ∧ wfC (rwD r x) (c + 1) L.length (d - 1)))
    have e1 : aI r 33 c = nj k := h0.1
    have e2 : aI r 34 c = nj v := h0.2
    rw [e1, e2]
    rcases h2 with ⟨a, b, w⟩ | ⟨a, b, w⟩ | ⟨a, b, w, y⟩
    · exact Or.inl ⟨by rw [a]; rfl, ⟨v, b, rfl⟩, wfC_e L (c + 1) (d + 1) hs' w⟩
    · exact Or.inr (Or.inl ⟨by rw [a]; rfl, ⟨v, b, rfl⟩, wfC_e L (c + 1) (d + 1) hs' w⟩)
    · exact Or.inr (Or.inr ⟨⟨k, a, b, rfl⟩, w, wfC_e L (c + 1) (d - 1) hs' y⟩)
/-- what waits below a LIT: and, or -/
def aoS (pa po : Bool) : List Nat := (if pa = true then [257] else []) ++ (if po = true then [156] else [])
theorem aoS_ok (pa po : Bool) : Bok (aoS pa po) ∧ (aoS pa po).length ≤ 2 := by
  cases pa <;> cases po <;> exact ⟨by unfold Bok aoS; simp, by decide⟩
theorem stO_nots {lim : Nat} (h : lim ≤ 3) {B : List Nat} : ∀ n, stO lim (List.replicate n 358 ++ B) = (List.replicate n 358 ++ (stO lim B).1, (stO lim B).2)
  | 0 => rfl
  | n + 1 => by
    have ih := stO_nots h (B := B) n
    show stO lim (358 :: (List.replicate n 358 ++ B)) = _
    have eu : stO lim (358 :: (List.replicate n 358 ++ B)) = (358 :: (stO lim (List.replicate n 358 ++ B)).1, (stO lim (List.replicate n 358 ++ B)).2) := by
      show (if 358 < lim * 100 then ([], 358 :: (List.replicate n 358 ++ B)) else _) = _
      rw [if_neg (by omega)]
    rw [eu, ih]
    rfl
theorem stE_nots (n : Nat) (l : List Nat) : stE (List.replicate n 358 ++ l) = List.replicate n 580000 ++ stE l := by
  unfold stE
  rw [List.map_append, List.map_replicate]
  rfl
/-- what a COND of the class may change -/
def Cc (p p' : Mem) : Prop := Ch (776 :: 777 :: FmF) [2, 3] nil p p' ∧ mC p' = mC p ∧ mS p' = mS p
def Cd (p p' : Mem) : Prop := Ch (776 :: 777 :: FmG) [2, 3] nil p p' ∧ mC p' = mC p ∧ mS p' = mS p
theorem Cc.rfl {p : Mem} : Cc p p := ⟨Ch.rfl, by trivial, by trivial⟩
theorem Cc.trans {p q s : Mem} (h : Cc p q) (k : Cc q s) : Cc p s := ⟨Ch.trans h.1 k.1, k.2.1.trans h.2.1, k.2.2.trans h.2.2⟩
theorem Cf.cc {p q : Mem} (h : Cf p q) : Cc p q := ⟨h.1.mono (fun _ z => List.mem_cons_of_mem _ (List.mem_cons_of_mem _ z)) (fun _ z => z) (fun _ z => z), h.2.1, h.2.2⟩
theorem Cg.cd {p q : Mem} (h : Cg p q) : Cd p q := ⟨h.1.mono (fun _ z => List.mem_cons_of_mem _ (List.mem_cons_of_mem _ z)) (fun _ z => z) (fun _ z => z), h.2.1, h.2.2⟩
theorem Cc.cd {p q s : Mem} (h : Cc p q) (k : Cd q s) : Cd p s := ⟨Ch.trans (h.1.mono (by decide) (fun _ z => z) (fun _ z => z)) k.1, k.2.1.trans h.2.1, k.2.2.trans h.2.2⟩
theorem Cc.nt {p q : Mem} {k j : Nat} (h : Cc p q) : Cc p (ntP k j q) := ⟨ntP_Ch h.1 (by decide) (by decide), by rw [ntP_x.1]; exact h.2.1, by rw [ntP_x.2.1]; exact h.2.2⟩
theorem Toks.cc {p p' r : Mem} {N : Nat} {kd pl : Nat → Nat} (h : Toks p r N kd pl) (c : Cc p p') (hp : 51 ≤ mC p) : Toks p' r N kd pl := h.ch c.1 hp (by decide)
section Lf
variable {r : Mem} {c q : Nat} {y1 y2 : Int32}
theorem R136_f {y3 y4 y5 : Int32} (h : Rf r c q) : R_literal_136 y1 y2 y3 y4 y5 r = some ((), r) := by
  unfold R_literal_136
  rw [if_neg h.ne.2.1]
theorem R122_f {y3 y5 : Int32} (h : Rf r c q) : ∃ r', R_literal_122 y1 y2 y3 y5 r = some ((), r') ∧ Rf r' c q ∧ ∀ C, Rx C r r' := by
  unfold R_literal_122
  obtain ⟨r1, a1, a2, a3⟩ := next_f h
  obtain ⟨r2, b1, b2, b3, -⟩ := expr_f a2
  rw [a1, bn_s, vb_e, b1, bn_s, R136_f b2]
  exact ⟨r2, rfl, b2, fun C => Rx.trans (a3 C) (b3 C)⟩
theorem R97_f {y3 s0 : Int32} (h : Rf r c q) : ∃ r', R_literal_97 y1 y2 y3 s0 r = some ((), r') ∧ Rf r' c q ∧ ∀ C, Rx C r r' := by
  unfold R_literal_97
  rw [if_neg h.ne.1]
  exact R122_f h
theorem R28_f (h : Rf r c q) : ∃ r', R_literal_28 y1 y2 r = some ((), r') ∧ Rf r' c q ∧ ∀ C, Rx C r r' := by
  unfold R_literal_28
  obtain ⟨r2, b1, b2, b3, -⟩ := expr_f h
  rw [vb_e, vb_e, is_f h, bn_s, if_pos rfl, b1, bn_s, if_neg b2.ne.2.1]
  obtain ⟨r3, d1, d2, d3⟩ := R97_f (y1 := y1) (y2 := y2) (y3 := mI r 1581 0) (s0 := 0) b2
  exact ⟨r3, d1, d2, fun C => Rx.trans (b3 C) (d3 C)⟩
end Lf
def odd (n : Nat) : Bool := decide (n % 2 = 1)
/-- the nots of a LIT -/
theorem nots_j {N : Nat} {kd pl : Nat → Nat} {x1 : Option Nat} {S : List Int32} {B : List Nat} {p0 r0 : Mem} {t0 i0 : Nat} {y : Int32} (h51 : 51 ≤ mC p0) (h82 : 82 ≤ mC r0) : ∀ (d : Nat) (p r : Mem) (t i g fu n : Nat), 501 - t ≤ d → Toks p r N kd pl → t < N → mI p 779 22 = nj t → mI r 1547 0 = nj t → mI r 1549 0 = 0 → Fs p true 0 0 false S (List.replicate n 358 ++ B) → S.length + n + B.length ≤ i → i < t → i + t0 = t + i0 → t0 ≤ t → Cf p0 p → (∀ C, Rx C r0 r) → mI r 1581 = mI r0 1581 → mI r 1548 = mI r0 1548 → g + i = FU → d < fu →
    (∃ p' r' t' i' g' n', P_Parser_takeFormula_10 g x1 1 (nj i) p = P_Parser_takeFormula_10 g' x1 1 (nj i') p' ∧ R_literal_2 fu y (tI (odd n)) r = R_literal_28 y (tI (odd n')) r' ∧ Toks p' r' N kd pl ∧ t' < N ∧ mI p' 779 22 = nj t' ∧ mI r' 1547 0 = nj t' ∧ mI r' 1549 0 = 0 ∧ Fs p' true 0 0 false S (List.replicate n' 358 ++ B) ∧ S.length + n' + B.length ≤ i' ∧ i' < t' ∧ i' + t0 = t' + i0 ∧ t0 ≤ t' ∧ Cf p0 p' ∧ (∀ C, Rx C r0 r') ∧ mI r' 1581 = mI r0 1581 ∧ mI r' 1548 = mI r0 1548 ∧ g' + i' = FU ∧ kd t' ≠ 58) ∨
    (∃ p' r', P_Parser_takeFormula_10 g x1 1 (nj i) p = some (0, p') ∧ R_literal_2 fu y (tI (odd n)) r = some ((), r') ∧ Fld p' r' ∧ Cg p0 p' ∧ ∀ C, Rx C r0 r')
  | 0, p, r, t, i, g, fu, n, hd, h1, h2, _, _, _, _, _, _, _, _, _, _, _, _, _, _ => absurd h2 (by have := h1.2.1; omega)
  | d + 1, p, r, t, i, g, fu, n, hd, h1, h2, h3, h4, h5, h6, h7, h8, h9, h10, h11, h12, h13, h14, hg, hfu => by
    obtain ⟨fu, rfl⟩ : ∃ f, fu = f + 1 := ⟨fu - 1, by omega⟩
    have hN := h1.2.1
    obtain ⟨k1, k2, k3, k4, k5, k6, k7, k8⟩ := h1.2.2.2.2 t h2
    clear k7 k8
    have hp : 51 ≤ mC p := by rw [h11.2.1]; exact h51
    have hr : 82 ≤ mC r := by rw [(h12 0).2.1]; exact h82
    rw [R_literal_2.eq_2, is_r h5 h4 (by omega) k4 k1 58 (by omega) (x := 46) rfl, bn_s]
    by_cases z : kd t = 58
    · obtain ⟨g, rfl⟩ : ∃ f, g = f + 1 := ⟨g - 1, by unfold FU at hg; omega⟩
      obtain ⟨m, a1, a2, a3, a4⟩ := u_not (x2 := Int64.toInt32 (aL p 20 t)) h6 (by simp; omega)
      rw [tf_it h3 (by omega) k3 h6.2.1 (by omega) (by omega) (by omega), if_neg (by omega), z, a1, bn_s, decide_eq_true rfl, tI_t, if_neg (show ¬ (1 : Int32) = 0 by decide)]
      have e20 : (if tI (odd n) = 0 then R_literal_20 (fun z0 z1 z2 => R_literal_2 fu z0 z1 z2) y 1 r else R_literal_20 (fun z0 z1 z2 => R_literal_2 fu z0 z1 z2) y 0 r) = bn (R_next r) fun _ m2 => R_literal_2 fu y (tI (odd (n + 1))) m2 := by
        unfold R_literal_20
        by_cases w : n % 2 = 1
        · have o1 : odd n = true := decide_eq_true w
          have o2 : odd (n + 1) = false := decide_eq_false (by omega)
          rw [o1, o2, tI_t, tI_f, if_neg (show ¬ (1 : Int32) = 0 by decide)]
        · have o1 : odd n = false := decide_eq_false w
          have o2 : odd (n + 1) = true := decide_eq_true (by omega)
          rw [o1, o2, tI_t, tI_f, if_pos rfl]
      rw [e20]
      have hm : mI m 779 22 = nj t := by rw [a4]; exact h3
      obtain ⟨n1, n2⟩ := next_r h5 h4 (by omega) k6
      rcases tf_adv (x1 := x1) (x2 := 1) (fu := g) (i := i) (Q := fun m' => Fs m' true 0 0 false S (358 :: (List.replicate n 358 ++ B))) hp (by omega) hm a4 a3 a2.2.2.2.2.1 (fun x => a2.s779 x) with ⟨w, p', b1, b2, b3, b4⟩ | ⟨w, p', b1, b2⟩
      · have hnx := h1.nxt h2 (by omega) w
        rw [b1, n1 w, bn_s]
        have hx : ∀ C, Rx C r (sI r 1547 0 (nj (t + 1))) := fun C => Rx.rfl.sI (by decide)
        exact nots_j h51 h82 d p' _ (t + 1) (i + 1) g fu (n + 1) (by omega) ((h1.cf b4 hp).rx (hx 0) hr) hnx b3 (by rw [k_mI_sI_e, up1_ap, if_pos rfl]) (by rw [k_mI_sI (by omega)]; exact h5) b2 (by omega) (by omega) (by omega) (by omega) (Cf.trans h11 b4) (fun C => Rx.trans (h12 C) (hx C)) (by rw [k_mI_sI (by omega)]; exact h13) (by rw [k_mI_sI (by omega)]; exact h14) (by omega) (by omega)
      · right
        obtain ⟨r1, c1, c2, c3⟩ := n2 w
        obtain ⟨fu, rfl⟩ : ∃ f, fu = f + 1 := ⟨fu - 1, by omega⟩
        obtain ⟨r2, d1, d2, d3⟩ := R28_f (y1 := y) (y2 := tI (odd (n + 1))) c2
        rw [b1, c1, bn_s, R_literal_2.eq_2, is_f c2, bn_s, if_pos rfl, d1]
        exact ⟨p', r2, rfl, rfl, b2.fld (p0 := p0) h1 h2 d2, Cf.cg h11 b2.2.2.1, fun C => Rx.trans (h12 C) (Rx.trans (c3 C) (d3 C))⟩
    · left
      rw [decide_eq_false z, tI_f, if_pos rfl]
      exact ⟨p, r, t, i, g, n, rfl, rfl, h1, h2, h3, h4, h5, h6, h7, h8, h9, h10, h11, h12, h13, h14, hg, z⟩
