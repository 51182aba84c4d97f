/-! Layer C: what a HALF is worth; in the class -/
def barS (D : Dt) (L : List Nat) (nm : Int32) : Bool := L.any fun c => (List.range (ix (D.1 25 c))).any fun b => decide (D.1 26 (4 * c + b) = nm)
/-- loads, extras, what counted -/
abbrev WSt : Type := Int32 × Int32 × List Nat
noncomputable def wSt (D : Dt) (vs : Nat → Int32) (tk : Int32) (S : WSt) (z : Row) : WSt :=
  if D.1 15 z.1 = 2 ∨ barS D S.2.2 (D.1 16 z.1) = true ∨ holdS D vs tk z.1 = false then S
  else if D.1 15 z.1 = 4 then (S.1 + jmax (-100) (jmin 400 (valS D vs (ix (D.1 21 z.1)) (ix (D.1 22 z.1)))), S.2.1, S.2.2 ++ [z.1])
  else (S.1, S.2.1 + jmax 0 (jmin 999 (valS D vs (ix (D.1 21 z.1)) (ix (D.1 22 z.1)))), S.2.2 ++ [z.1])
noncomputable def wFd (D : Dt) (vs : Nat → Int32) (tk : Int32) (l : List Row) : WSt := l.foldl (wSt D vs tk) (100, 0, [])
def BitR (D : Dt) (S : WSt) (x : Int64) : Prop := ∀ u, u < 60 → (x.toBitVec.getLsbD u = true ↔ barS D S.2.2 (nj u) = true)
def CtP (D : Dt) (S : WSt) (p : Mem) : Prop := mI p 1043 28 = nj S.2.2.length ∧ ∀ i c, S.2.2[i]? = some c → aI p 40 i = D.1 16 c
def WIn (D : Dt) (S : WSt) : Prop := (∀ c, c ∈ S.2.2 → isI D c ∧ (D.1 15 c = 4 ∨ D.1 15 c = 5)) ∧ ∃ e, e ≤ 999 * S.2.2.length ∧ S.2.1 = nj e
section Wp
variable {fa ta ia sa ca : Nat → Nat} {od : List Nat} {p : Mem} {D : Dt} {nc : Nat} {X : Dy} {sup : Sup} {w : Nat} {vs : Nat → Int32} {tk : Int32}
theorem wFd_snoc {l : List Row} {z : Row} : wFd D vs tk (l ++ [z]) = wSt D vs tk (wFd D vs tk l) z := by
  unfold wFd
  rw [List.foldl_append]
  rfl
theorem hl999 (x : Int32) : ∃ e, e ≤ 999 ∧ jmax 0 (jmin 999 x) = nj e := by
  have h : 0 ≤ jmax 0 (jmin 999 x) ∧ jmax 0 (jmin 999 x) ≤ 999 := by
    unfold jmax jmin
    grind
  obtain ⟨e, he, hx⟩ := nj_in (n := 999) (by omega) h
  exact ⟨e, he, hx⟩
theorem wSt_in {S : WSt} {z : Row} (h : WIn D S) (hz : isI D z.1) (h2 : D.1 15 z.1 = 2 ∨ D.1 15 z.1 = 4 ∨ D.1 15 z.1 = 5) : WIn D (wSt D vs tk S z) := by
  unfold wSt
  by_cases q : D.1 15 z.1 = 2 ∨ barS D S.2.2 (D.1 16 z.1) = true ∨ holdS D vs tk z.1 = false
  · rw [if_pos q]; exact h
  · rw [if_neg q]
    have h45 : D.1 15 z.1 = 4 ∨ D.1 15 z.1 = 5 := by
      rcases h2 with z | z
      · exact absurd (Or.inl z) q
      · exact z
    have hm : ∀ c, c ∈ S.2.2 ++ [z.1] → isI D c ∧ (D.1 15 c = 4 ∨ D.1 15 c = 5) := fun c hc => by
      rcases List.mem_append.mp hc with y | y
      · exact h.1 c y
      · rw [List.mem_singleton.mp y]; exact ⟨hz, h45⟩
    obtain ⟨e, he, hx⟩ := h.2
    by_cases q4 : D.1 15 z.1 = 4
    · rw [if_pos q4]
      exact ⟨hm, e, by rw [List.length_append]; simp; omega, hx⟩
    · rw [if_neg q4]
      obtain ⟨e', he', hx'⟩ := hl999 (valS D vs (ix (D.1 21 z.1)) (ix (D.1 22 z.1)))
      refine ⟨hm, e + e', by rw [List.length_append]; simp; omega, ?_⟩
      show S.2.1 + jmax 0 (jmin 999 _) = _
      rw [hx, hx', nj_add]
theorem wFd_in : ∀ (l : List Row) (S : WSt), WIn D S → (∀ z, z ∈ l → isI D z.1 ∧ (D.1 15 z.1 = 2 ∨ D.1 15 z.1 = 4 ∨ D.1 15 z.1 = 5)) → WIn D (l.foldl (wSt D vs tk) S)
  | [], S, h, _ => h
  | z :: l, S, h, hl => wFd_in l (wSt D vs tk S z) (wSt_in h (hl z (by simp)).1 (hl z (by simp)).2) (fun y hy => hl y (by simp [hy]))
theorem wIn_0 : WIn D (100, 0, []) := ⟨fun _ h => absurd h List.not_mem_nil, 0, Nat.zero_le _, rfl⟩
theorem wIn_Q {l : List Row} (h : WRow D l) (j : Nat) : WIn D (wFd D vs tk (l.take j)) := wFd_in _ _ wIn_0 (fun z hz => ⟨(h.1 z (List.mem_of_mem_take hz)).1, (h.1 z (List.mem_of_mem_take hz)).2.1⟩)
theorem wSt_len {S : WSt} {z : Row} : (wSt D vs tk S z).2.2.length ≤ S.2.2.length + 1 := by
  unfold wSt
  split
  · omega
  · split <;> simp
theorem wFd_len : ∀ (l : List Row) (S : WSt), (l.foldl (wSt D vs tk) S).2.2.length ≤ S.2.2.length + l.length
  | [], S => by simp
  | z :: l, S => by
    have h1 := wFd_len l (wSt D vs tk S z)
    have h2 := wSt_len (D := D) (vs := vs) (tk := tk) (S := S) (z := z)
    show ((l.foldl (wSt D vs tk) (wSt D vs tk S z))).2.2.length ≤ S.2.2.length + (l.length + 1)
    omega
theorem wQ_len {l : List Row} {j : Nat} : (wFd D vs tk (l.take j)).2.2.length ≤ j := by
  have := wFd_len (D := D) (vs := vs) (tk := tk) (l.take j) (100, 0, [])
  have h2 : (l.take j).length ≤ j := by rw [List.length_take]; omega
  show ((l.take j).foldl (wSt D vs tk) (100, 0, [])).2.2.length ≤ j
  simp at this
  omega
theorem barS_snoc {L : List Nat} {i : Nat} {nm : Int32} : barS D (L ++ [i]) nm = (barS D L nm || (List.range (ix (D.1 25 i))).any fun b => decide (D.1 26 (4 * i + b) = nm)) := by
  unfold barS
  rw [List.any_append]
  simp
theorem take_get {l : List Row} {j : Nat} {z : Row} (h : l[j]? = some z) : l.take (j + 1) = l.take j ++ [z] := by
  rw [List.take_add_one, h]
  rfl
theorem litS_ne {nt : Nat → Nat} {l : Nat} : 0 < (litS D nt l).length := by
  unfold litS
  rw [List.length_append]
  by_cases q : D.1 27 l = 4
  · rw [if_pos q]; simp; omega
  · rw [if_neg q]; simp; omega
theorem conS_len {nt : Nat → Nat} {pa po : Bool} {l : Nat} {r : List Nat} : 0 < (conS D nt pa po (l :: r)).length := by
  rw [conS_ne, List.length_append]
  have := litS_ne (D := D) (nt := nt) (l := l)
  omega
/-- a load's or extra's condition -/
theorem P_cond_e (L : Lk fa ta ia sa ca od p D) (hp : PL p) (W : WText D nc) (Wi : WItems D nc) {i : Nat} (hi : isI D i) (h45 : D.1 15 i = 4 ∨ D.1 15 i = 5) (H : HoP p vs tk) :
    (mN p (ca i) = 0 ∧ holdS D vs tk i = true) ∨ (mN p (ca i) ≠ 0 ∧ mN p (ca i) ≤ 500 ∧ ∃ p', P_Reckoning_holds (some (ia i)) p = some (tI (holdS D vs tk i), p') ∧ Ch [] [4] nil p p' ∧ mC p' = mC p ∧ mS p' = mS p) := by
  obtain ⟨k, j, hk, hj, rfl⟩ := hi
  obtain ⟨h1, who, h2, h3, h4⟩ := H
  obtain ⟨s, s1, s2, -, -, -, -, -, -, -, -, ⟨a, e, q1, q2, q3, q4, q5, q6, q7⟩, -⟩ := Wi k j hk hj
  have h24 := W.1
  obtain ⟨-, i2, -, -, -, -, -, -, i9, -, i11, -, -, -, i15, -⟩ := L.2.2.2.1 k j hk hj
  obtain ⟨nt, n1, n2⟩ := i15 (Or.inr h45)
  rw [q3, q4, ix_nj (by omega), ix_nj (by omega)] at n1 n2
  by_cases c : a = e
  · left
    constructor
    · rw [n2.2.1, c, Nat.sub_self]
      rfl
    · unfold holdS
      rw [q3, q4, c, if_pos rfl]
  · right
    have hae : a < e := by omega
    have hl : 0 < (conS D nt false false (List.range' a (e - a))).length := by
      rw [show e - a = (e - a - 1) + 1 by omega, List.range'_succ]
      exact conS_len
    refine ⟨by rw [n2.2.1]; omega, by rw [n2.2.1]; exact n2.2.2.1, ?_⟩
    obtain ⟨p', a1, a2, a3, a4⟩ := P_result_e (vs := vs) (va := 39) (tk := tk) i11 (by omega) n2 (PC_39 hp).1 (PC_39 hp).2 h1
    rw [cond_eq h24 hae q7 n1 (q6 hae)] at a1
    refine ⟨p', ?_, a2, a3, a4⟩
    have hh : holdS D vs tk (30 * k + j) = rH D vs tk false (List.range' a (e - a)) := by
      unfold holdS
      rw [q3, q4, ix_nj (by omega), ix_nj (by omega), if_neg (fun z => by have := (nj_inj (by omega) (by omega)).mp z; omega)]
    unfold P_Reckoning_holds
    rw [gs_s, gt_t i2, h3, inb_nj (by omega), gd_t (decide_eq_true h2), ix_nj (by omega), h4, i9, a1, bn_s, hh]
    cases rH D vs tk false (List.range' a (e - a)) <;> rfl
theorem P_sum_e (L : Lk fa ta ia sa ca od p D) (hp : PL p) (W : WText D nc) (Wi : WItems D nc) {i : Nat} (hi : isI D i) (h45 : D.1 15 i = 4 ∨ D.1 15 i = 5) (hv : ∀ j, j < 12 → aI p 39 j = vs j) : ∃ p', P_Formula_result (mR p 262 (ia i)) (some 39) 0 p = some (valS D vs (ix (D.1 21 i)) (ix (D.1 22 i)), p') ∧ Ch [] [4] nil p p' ∧ mC p' = mC p ∧ mS p' = mS p := by
  obtain ⟨k, j, hk, hj, rfl⟩ := hi
  obtain ⟨s, s1, s2, -, -, -, -, -, -, -, hse, -⟩ := Wi k j hk hj
  have h24 := W.1
  have hs : s = 4 ∨ s = 5 := by
    rcases h45 with z | z
    · exact Or.inl ((nj_inj (b := 4) (by omega) (by omega)).mp (s2.symm.trans z))
    · exact Or.inr ((nj_inj (b := 5) (by omega) (by omega)).mp (s2.symm.trans z))
  obtain ⟨a, b, q1, q2, q3, q4, q5⟩ := hse (by omega)
  obtain ⟨-, i2, -, -, -, -, -, i8, -, i10, -, -, -, i14, -⟩ := L.2.2.2.1 k j hk hj
  have A := i14 (by rcases h45 with z | z; exact Or.inr (Or.inl z); exact Or.inr (Or.inr (Or.inl z)))
  rw [q3, q4, ix_nj (by omega), ix_nj (by omega)] at A ⊢
  obtain ⟨p', a1, a2, a3, a4⟩ := P_result_e (vs := vs) (va := 39) (tk := 0) i10 (by omega) A (PC_39 hp).1 (PC_39 hp).2 hv
  rw [sum_eq q5] at a1
  exact ⟨p', by rw [i8]; exact a1, a2, a3, a4⟩
theorem P_worthBy_70_e (W : WText D nc) (Wi : WItems D nc) (hn60 : nc ≤ 60) (hd : xd X < 140) {k : Nat} (hk : k < D.2.1) (hi : inH D X k = true) (hwk : isW D k = true) : ∀ (e j fu : Nat) (p : Mem) (x6 : Int64), j + e = (rowQ D X k).length → e < fu → PD fa ta ia sa ca od D X sup w p → HoP p vs tk → BitR D (wFd D vs tk ((rowQ D X k).take j)) x6 → CtP D (wFd D vs tk ((rowQ D X k).take j)) p →
    ∃ p', P_Reckoning_worthBy_70 fu (some (ta k)) (wFd D vs tk ((rowQ D X k).take j)).1 (wFd D vs tk ((rowQ D X k).take j)).2.1 x6 (nj j) p = P_Reckoning_worthBy_250 (wFd D vs tk (rowQ D X k)).1 (wFd D vs tk (rowQ D X k)).2.1 p' ∧ CtP D (wFd D vs tk (rowQ D X k)) p' ∧ PD fa ta ia sa ca od D X sup w p' ∧ Ch [1043] [4, 40] nil p p' ∧ mC p' = mC p ∧ mS p' = mS p
  | 0, j, fu + 1, p, x6, he, _, P, H, hB, hC => by
    have hlen := (rowQ_W (X := X) W hd hk).len Wi hn60
    obtain ⟨-, t2, -⟩ := P.1.2.1.2.1 k hk
    have e92 : mI p 1292 (ta k) = nj (rowQ D X k).length := (P.2.2.2.2.1.2.1 k hk hi hwk).1
    rw [List.take_of_length_le (by omega)] at hC ⊢
    refine ⟨p, ?_, hC, P, Ch.rfl, rfl, rfl⟩
    rw [P_Reckoning_worthBy_70.eq_2, gs_s, gt_t t2, e92, if_pos (by rw [nj_le (by omega) (by omega)]; omega)]
  | e + 1, j, fu + 1, p, x6, he, hf, P, H, hB, hC => by
    have hlen := (rowQ_W (X := X) W hd hk).len Wi hn60
    obtain ⟨L, T, hp, St, M, N⟩ := id P
    have T1 := T.1
    obtain ⟨-, t2, -, -, -, -, -, -, -, -, -, -, t13, -, -, -, t17, -, -, -, t21⟩ := L.2.1.2.1 k hk
    have hR := M.2.1 k hk hi hwk
    have h60 : D.1 8 k = 0 ∨ D.1 8 k = 3 := of_decide_eq_true hwk
    have e92 : mI p 1292 (ta k) = nj (rowQ D X k).length := hR.1
    obtain ⟨z, hz⟩ : ∃ q, (rowQ D X k)[j]? = some q := ⟨(rowQ D X k)[j]'(by omega), List.getElem?_eq_getElem (by omega)⟩
    obtain ⟨zI, z245, -⟩ := (rowQ_W (X := X) W hd hk).1 z (List.mem_of_getElem? hz)
    obtain ⟨k', I⟩ := itemAt_of L zI
    obtain ⟨u, hu, eu⟩ := nm_of Wi zI z245
    have hwin := wIn_Q (vs := vs) (tk := tk) (rowQ_W (X := X) W hd hk) j
    have hwl := wQ_len (D := D) (vs := vs) (tk := tk) (l := rowQ D X k) (j := j)
    have hnext : wFd D vs tk ((rowQ D X k).take (j + 1)) = wSt D vs tk (wFd D vs tk ((rowQ D X k).take j)) z := by rw [take_get hz, wFd_snoc]
    have e34 : (D.1 15 z.1 + 32 = 34) = (D.1 15 z.1 = 2) := propext (by grind)
    have go1 : ∀ p1, Ch [1043] [4, 40] nil p p1 → mC p1 = mC p → mS p1 = mS p → wSt D vs tk (wFd D vs tk ((rowQ D X k).take j)) z = wFd D vs tk ((rowQ D X k).take j) → mI p1 1043 28 = mI p 1043 28 → aI p1 40 = aI p 40 →
        ∃ p', P_Reckoning_worthBy_244 (fun z0 z1 z2 z3 z4 z5 => P_Reckoning_worthBy_70 fu z0 z1 z2 z3 z4 z5) (some (ta k)) (wFd D vs tk ((rowQ D X k).take j)).1 (wFd D vs tk ((rowQ D X k).take j)).2.1 x6 (nj j) p1 = P_Reckoning_worthBy_250 (wFd D vs tk (rowQ D X k)).1 (wFd D vs tk (rowQ D X k)).2.1 p' ∧ CtP D (wFd D vs tk (rowQ D X k)) p' ∧ PD fa ta ia sa ca od D X sup w p' ∧ Ch [1043] [4, 40] nil p p' ∧ mC p' = mC p ∧ mS p' = mS p := fun p1 c1 h1 h2 hsame e43 e40 => by
      have St1 : Stm ta D w p1 := ⟨by rw [c1.i (by decide) (by omega)]; exact St.1, fun k j hk => by
        obtain ⟨y1, -, -, -, -, -, -, -, -, -, -, -, -, -, -, -, -, -, y19, -⟩ := L.2.1.2.1 k hk
        rw [c1.ai (by simp; omega) nil_no (T.lt (by rw [y19]; decide))]; exact St.2 k j hk⟩
      have P1 := P.Ch c1.dy (by decide) (by decide) (by decide) St1
      rw [hsame] at hnext
      have ih := P_worthBy_70_e W Wi hn60 hd hk hi hwk e (j + 1) fu p1 x6 (by omega) (by omega) P1 (H.Ch T c1 (by decide) (by decide) ⟨nil_no, nil_no⟩) (by rw [hnext]; exact hB) (by rw [hnext]; unfold CtP; rw [e43, e40]; exact hC)
      rw [hnext] at ih
      obtain ⟨p', a1, a2, a3, a4, a5, a6⟩ := ih
      refine ⟨p', ?_, a2, a3, c1.trans a4, by omega, by omega⟩
      unfold P_Reckoning_worthBy_244
      rw [vb_e, nj_add_l]
      exact a1
    rw [P_Reckoning_worthBy_70.eq_2, gs_s, gt_t t2, e92, if_neg (by rw [nj_le (by omega) (by omega)]; omega), t13, gs_s, gt_t t17, (t21 h60).1, inb_nj (by omega), gd_t (decide_eq_true (by omega)), ix_nj (by omega), (hR.2.1 j z hz).1, gs_s, gt_t I.2.1, I.2.2.1]
    by_cases c2 : D.1 15 z.1 = 2
    · rw [if_pos (by rw [e34]; exact c2)]
      exact go1 p Ch.rfl rfl rfl (by unfold wSt; rw [if_pos (Or.inl c2)]) rfl rfl
    · have h45 : D.1 15 z.1 = 4 ∨ D.1 15 z.1 = 5 := by
        rcases z245 with y | y
        · exact absurd y c2
        · exact y
      rw [if_neg (by rw [e34]; exact c2), I.2.2.2.2.1, eu]
      by_cases cb : barS D (wFd D vs tk ((rowQ D X k).take j)).2.2 (nj u) = true
      · rw [if_neg (by rw [bit64 (by omega)]; rw [(hB u (by omega)).mpr cb]; simp)]
        exact go1 p Ch.rfl rfl rfl (by unfold wSt; rw [if_pos (Or.inr (Or.inl (by rw [eu]; exact cb)))]) rfl rfl
      · rw [if_pos (by rw [bit64 (by omega)]; exact Bool.eq_false_iff.mpr (fun y => cb ((hB u (by omega)).mp y)))]
        have hbit := I.2.2.2.2.2.2.2.2.2.2.2.2.2.2.2.1 h45
        have i9 := I.2.2.2.2.2.2.2.2.1
        have i13 := I.2.2.2.2.2.2.2.2.2.2.2.2.1
        have go2 : ∀ p1, Ch [1043] [4, 40] nil p p1 → mC p1 = mC p → mS p1 = mS p → holdS D vs tk z.1 = true → mI p1 1043 28 = mI p 1043 28 → aI p1 40 = aI p 40 →
            ∃ p', P_Reckoning_worthBy_131 (fun z0 z1 z2 z3 z4 z5 => P_Reckoning_worthBy_70 fu z0 z1 z2 z3 z4 z5) (some (ta k)) (wFd D vs tk ((rowQ D X k).take j)).1 (wFd D vs tk ((rowQ D X k).take j)).2.1 x6 (nj j) (some (ia z.1)) p1 = P_Reckoning_worthBy_250 (wFd D vs tk (rowQ D X k)).1 (wFd D vs tk (rowQ D X k)).2.1 p' ∧ CtP D (wFd D vs tk (rowQ D X k)) p' ∧ PD fa ta ia sa ca od D X sup w p' ∧ Ch [1043] [4, 40] nil p p' ∧ mC p' = mC p ∧ mS p' = mS p := fun p1 c1 h1 h2 hh e43 e40 => by
          have stm : ∀ p1, Ch [1043] [4, 40] nil p p1 → Stm ta D w p1 := fun p1 c1 => ⟨by rw [c1.i (by decide) (by omega)]; exact St.1, fun k j hk => by
            obtain ⟨y1, -, -, -, -, -, -, -, -, -, -, -, -, -, -, -, -, -, y19, -⟩ := L.2.1.2.1 k hk
            rw [c1.ai (by simp; omega) nil_no (T.lt (by rw [y19]; decide))]; exact St.2 k j hk⟩
          have P1 := P.Ch c1.dy (by decide) (by decide) (by decide) (stm p1 c1)
          have H1 := H.Ch T c1 (by decide) (by decide) ⟨nil_no, nil_no⟩
          obtain ⟨p2, b1, b2, b3, b4⟩ := P_sum_e P1.1 P1.2.2.1 W Wi zI h45 H1.1
          have c2' : Ch [1043] [4, 40] nil p p2 := c1.trans (b2.mono (by simp) (by simp) (fun _ h => h))
          have P2 := P.Ch c2'.dy (by decide) (by decide) (by decide) (stm p2 c2')
          obtain ⟨k1, I1⟩ := itemAt_of P1.1 zI
          obtain ⟨k2, I2⟩ := itemAt_of P2.1 zI
          have e43' : mI p2 1043 28 = nj (wFd D vs tk ((rowQ D X k).take j)).2.2.length := by rw [b2.i List.not_mem_nil (by omega), e43]; exact hC.1
          have e40' : aI p2 40 = aI p 40 := by rw [b2.ai (by decide) nil_no (by omega)]; exact e40
          have la : ia z.1 < mC p := T.lt (by rw [I.2.1]; decide)
          have c3 : Ch [1043] [4, 40] nil p (sI (wI p2 40 (wFd D vs tk ((rowQ D X k).take j)).2.2.length (D.1 16 z.1)) 1043 28 (nj ((wFd D vs tk ((rowQ D X k).take j)).2.2.length + 1))) := (c2'.wI (Or.inl (by decide))).sI (by decide)
          have P3 := P.Ch c3.dy (by decide) (by decide) (by decide) (stm _ c3)
          have H3 := H.Ch T c3 (by decide) (by decide) ⟨nil_no, nil_no⟩
          have hsL : (wSt D vs tk (wFd D vs tk ((rowQ D X k).take j)) z).2.2 = (wFd D vs tk ((rowQ D X k).take j)).2.2 ++ [z.1] := by
            unfold wSt
            rw [if_neg (by rw [eu, hh]; simp [c2, cb])]
            by_cases q4 : D.1 15 z.1 = 4
            · rw [if_pos q4]
            · rw [if_neg q4]
          obtain ⟨p', d1, d2, d3, d4, d5, d6⟩ := P_worthBy_70_e W Wi hn60 hd hk hi hwk e (j + 1) fu _ (x6 ||| mL p2 264 (ia z.1)) (by omega) (by omega) P3 H3 (by
            intro u' hu'
            rw [hnext, hsL, barS_snoc, or64, Bool.or_eq_true, Bool.or_eq_true, hB u' hu', I2.2.2.2.2.2.2.2.2.2.2.2.2.2.2.2.1 h45 u' hu', List.any_eq_true]
            constructor
            · rintro (y | ⟨b, y1, y2⟩)
              · exact Or.inl y
              · exact Or.inr ⟨b, List.mem_range.mpr y1, decide_eq_true y2⟩
            · rintro (y | ⟨b, y1, y2⟩)
              · exact Or.inl y
              · exact Or.inr ⟨b, List.mem_range.mp y1, of_decide_eq_true y2⟩) (by
            unfold CtP
            rw [hnext, hsL, List.length_append]
            refine ⟨by rw [k_mI_sI_e, up1_eq]; rfl, fun i c hc => ?_⟩
            rw [k_aI_sI, k_aI_wI_e, up1_ap]
            by_cases y : i = (wFd D vs tk ((rowQ D X k).take j)).2.2.length
            · rw [if_pos y]
              rw [y, List.getElem?_append_right (Nat.le_refl _), Nat.sub_self] at hc
              cases hc
              rfl
            · rw [if_neg y, e40']
              have hlt : i < (wFd D vs tk ((rowQ D X k).take j)).2.2.length := by
                have := (List.getElem?_eq_some_iff.mp hc).1
                rw [List.length_append] at this
                simp at this
                omega
              rw [List.getElem?_append_left hlt] at hc
              exact hC.2 i c hc)
          refine ⟨p', ?_, d2, d3, c3.trans d4, by rw [d5, k_mC_sI, k_mC_wI]; omega, by rw [d6, k_mS_sI, k_mS_wI]; omega⟩
          have hval : wFd D vs tk ((rowQ D X k).take (j + 1)) = if D.1 15 z.1 = 4 then ((wFd D vs tk ((rowQ D X k).take j)).1 + jmax (-100) (jmin 400 (valS D vs (ix (D.1 21 z.1)) (ix (D.1 22 z.1)))), (wFd D vs tk ((rowQ D X k).take j)).2.1, (wFd D vs tk ((rowQ D X k).take j)).2.2 ++ [z.1]) else ((wFd D vs tk ((rowQ D X k).take j)).1, (wFd D vs tk ((rowQ D X k).take j)).2.1 + jmax 0 (jmin 999 (valS D vs (ix (D.1 21 z.1)) (ix (D.1 22 z.1)))), (wFd D vs tk ((rowQ D X k).take j)).2.2 ++ [z.1]) := by
            rw [hnext]
            unfold wSt
            rw [if_neg (by rw [eu, hh]; simp [c2, cb])]
          unfold P_Reckoning_worthBy_131
          rw [gs_s, gt_t I1.2.1, b1, bn_s, gt_t I2.2.1, I2.2.2.1]
          have e207 : ∀ a b : Int32, P_Reckoning_worthBy_207 (fun z0 z1 z2 z3 z4 z5 => P_Reckoning_worthBy_70 fu z0 z1 z2 z3 z4 z5) (some (ta k)) a x6 (nj j) (some (ia z.1)) b (wFd D vs tk ((rowQ D X k).take j)).2.1 p2 = P_Reckoning_worthBy_70 fu (some (ta k)) a ((wFd D vs tk ((rowQ D X k).take j)).2.1 + b) (x6 ||| mL p2 264 (ia z.1)) (nj (j + 1)) (sI (wI p2 40 (wFd D vs tk ((rowQ D X k).take j)).2.2.length (D.1 16 z.1)) 1043 28 (nj ((wFd D vs tk ((rowQ D X k).take j)).2.2.length + 1))) := fun a b => by
            unfold P_Reckoning_worthBy_207 P_Reckoning_worthBy_244
            rw [vb_e, gs_s, gt_t I2.2.1, vb_e, e43', inb_nj (by omega), gd_t (decide_eq_true (by omega)), vb_e, vb_e, k_mI_wI, e43', nj_add_l, vb_e, nj_add_l, ix_nj (by omega), I2.2.2.2.2.1]
          unfold P_Reckoning_worthBy_179
          simp only [vb_e, gs_s, gt_t I2.2.1, P_held_e, bp_s, e207, I2.2.2.1]
          rcases h45 with q4 | q5
          · rw [if_pos q4] at hval
            rw [hval] at d1
            rw [if_pos (by rw [q4]; rfl), if_neg (by rw [q4]; decide), Int32.add_zero]
            exact d1
          · rw [if_neg (by rw [q5]; decide)] at hval
            rw [hval] at d1
            rw [if_neg (by rw [q5]; decide), if_pos (by rw [q5]; rfl), Int32.add_zero]
            exact d1
        rw [i9, gs_s, gt_t i13]
        rcases P_cond_e L hp W Wi zI h45 H with ⟨n0, hh⟩ | ⟨n0, n5, p1, a1, a2, a3, a4⟩
        · rw [if_pos (by rw [n0]; rfl)]
          exact go2 p Ch.rfl rfl rfl hh rfl rfl
        · rw [if_neg (show ¬ Int32.ofNat (mN p (ca z.1)) = 0 from fun y => n0 ((nj_inj (b := 0) (by omega) (by omega)).mp y)), a1, bn_s]
          have c1 : Ch [1043] [4, 40] nil p p1 := a2.mono (by simp) (by simp) (fun _ h => h)
          cases hh : holdS D vs tk z.1 with
          | false =>
            rw [if_pos (by rfl)]
            exact go1 p1 c1 a3 a4 (by unfold wSt; rw [if_pos (Or.inr (Or.inr hh))]) (a2.i List.not_mem_nil (by omega)) (a2.ai (by decide) nil_no (by omega))
          | true =>
            rw [if_neg (by decide)]
            exact go2 p1 c1 a3 a4 hh (a2.i List.not_mem_nil (by omega)) (a2.ai (by decide) nil_no (by omega))
end Wp
