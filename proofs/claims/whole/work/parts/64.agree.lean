/-! Layer C: the agree that binds a HALF, on both sides -/
def agP (D : Dt) (inf : Nat → Bool) (vs : Nat → Int32) (tk : Int32) (k a : Nat) : Bool := decide (D.1 8 a = 3) && (decide (D.1 13 a = nj k) && (inf a && bdS D vs tk a))
def lsF (P : Nat → Bool) (l : List Nat) : Option Nat := (l.filter P).getLast?
def bst (D : Dt) (P : Nat → Bool) : Nat → Option Nat
  | 0 => none
  | i + 1 => if P i then (match bst D P i with
    | none => some i
    | some b => if D.1 11 i < D.1 11 b then some b else some i) else bst D P i
abbrev ORD (D : Dt) (k l : Nat) : Prop := D.1 11 k < D.1 11 l ∨ (D.1 11 k = D.1 11 l ∧ k < l)
section Ag
variable {fa ta ia sa ca : Nat → Nat} {od : List Nat} {p r : Mem} {D : Dt} {nc : Nat} {vs : Nat → Int32} {tk : Int32} {inf P : Nat → Bool}
theorem bst_p : ∀ n, (bst D P n = none → ∀ l, l < n → P l = false) ∧ ∀ b, bst D P n = some b → b < n ∧ P b = true ∧ ∀ l, l < n → P l = true → l = b ∨ ORD D l b
  | 0 => ⟨fun _ _ h => absurd h (by omega), fun _ h => by cases h⟩
  | n + 1 => by
    obtain ⟨h1, h2⟩ := bst_p n
    have hs : bst D P (n + 1) = if P n then (match bst D P n with
      | none => some n
      | some b => if D.1 11 n < D.1 11 b then some b else some n) else bst D P n := rfl
    rw [hs]
    cases c : P n with
    | false =>
      simp only [Bool.false_eq_true, if_false]
      refine ⟨fun e l hl => ?_, fun b e => ?_⟩
      · by_cases q : l = n
        · rw [q]; exact c
        · exact h1 e l (by omega)
      · obtain ⟨g1, g2, g3⟩ := h2 b e
        refine ⟨by omega, g2, fun l hl hp => ?_⟩
        by_cases q : l = n
        · rw [q, c] at hp; cases hp
        · exact g3 l (by omega) hp
    | true =>
      simp only [if_true]
      cases cb : bst D P n with
      | none =>
        refine ⟨fun e => (by cases e), fun b e => ?_⟩
        cases e
        refine ⟨by omega, c, fun l hl hp => ?_⟩
        by_cases q : l = n
        · exact Or.inl q
        · rw [h1 cb l (by omega)] at hp; cases hp
      | some b0 =>
        obtain ⟨g1, g2, g3⟩ := h2 b0 cb
        by_cases q0 : D.1 11 n < D.1 11 b0
        · simp only [q0, if_true]
          refine ⟨fun e => (by cases e), fun b e => ?_⟩
          cases e
          refine ⟨by omega, g2, fun l hl hp => ?_⟩
          by_cases q : l = n
          · rw [q]; exact Or.inr (Or.inl q0)
          · exact g3 l (by omega) hp
        · simp only [q0, if_false]
          refine ⟨fun e => (by cases e), fun b e => ?_⟩
          cases e
          refine ⟨by omega, c, fun l hl hp => ?_⟩
          by_cases q : l = n
          · exact Or.inl q
          · right
            rcases g3 l (by omega) hp with e | e | e
            · rw [e]
              by_cases q2 : D.1 11 b0 = D.1 11 n
              · exact Or.inr ⟨q2, by omega⟩
              · left; grind
            · left; grind
            · by_cases q2 : D.1 11 b0 = D.1 11 n
              · exact Or.inr ⟨e.1.trans q2, by omega⟩
              · left; rw [e.1]; grind
theorem lsF_p (hs : od.Pairwise (ORD D)) : (lsF P od = none → ∀ l, l ∈ od → P l = false) ∧ ∀ b, lsF P od = some b → b ∈ od ∧ P b = true ∧ ∀ l, l ∈ od → P l = true → l = b ∨ ORD D l b := by
  unfold lsF
  refine ⟨fun e l hl => ?_, fun b e => ?_⟩
  · rw [List.getLast?_eq_none_iff] at e
    cases c : P l with
    | false => rfl
    | true =>
      have : l ∈ od.filter P := List.mem_filter.mpr ⟨hl, c⟩
      rw [e] at this
      cases this
  · obtain ⟨ys, hy⟩ := List.getLast?_eq_some_iff.mp e
    have hb : b ∈ od.filter P := by rw [hy]; simp
    obtain ⟨b1, b2⟩ := List.mem_filter.mp hb
    refine ⟨b1, b2, fun l hl hp => ?_⟩
    have hm : l ∈ od.filter P := List.mem_filter.mpr ⟨hl, hp⟩
    have hpw := hs.filter P
    rw [hy] at hm hpw
    rcases List.mem_append.mp hm with q | q
    · exact Or.inr ((List.pairwise_append.mp hpw).2.2 l q b (by simp))
    · exact Or.inl (List.mem_singleton.mp q)
theorem ORD_asy {a b : Nat} (h1 : ORD D a b) (h2 : ORD D b a) : False := by
  rcases h1 with h1 | h1 <;> rcases h2 with h2 | h2
  · grind
  · rw [h2.1] at h1; exact absurd h1 Int32.lt_irrefl
  · rw [h1.1] at h2; exact absurd h2 Int32.lt_irrefl
  · omega
theorem agree_eq (hm : ∀ k, k ∈ od ↔ k < D.2.1) (hs : od.Pairwise (ORD D)) : lsF P od = bst D P D.2.1 := by
  obtain ⟨a1, a2⟩ := lsF_p (P := P) hs
  obtain ⟨b1, b2⟩ := bst_p (D := D) (P := P) D.2.1
  cases ca : lsF P od with
  | none =>
    cases cb : bst D P D.2.1 with
    | none => rfl
    | some b =>
      obtain ⟨g1, g2, -⟩ := b2 b cb
      rw [a1 ca b ((hm b).mpr g1)] at g2
      cases g2
  | some a =>
    obtain ⟨f1, f2, f3⟩ := a2 a ca
    cases cb : bst D P D.2.1 with
    | none =>
      rw [b1 cb a ((hm a).mp f1)] at f2
      cases f2
    | some b =>
      obtain ⟨g1, g2, g3⟩ := b2 b cb
      rcases f3 b ((hm b).mpr g1) g2 with e | e
      · rw [e]
      · rcases g3 a ((hm a).mp f1) f2 with e' | e'
        · rw [e']
        · exact (ORD_asy e e').elim
theorem R_agreeOf_4_e (W : WText D nc) (Wi : WItems D nc) {k : Nat} : ∀ (e l fu : Nat) (r : Mem), l + e = D.2.1 → e < fu → HoR r D vs tk → mI r 1554 0 = nj D.2.1 → (∀ k, k < D.2.1 → aI r 52 k = tI (inf k)) → ∃ r', R_agreeOf_4 fu (nj k) (jo (bst D (agP D inf vs tk k) l)) (nj l) r = some (jo (bst D (agP D inf vs tk k) D.2.1), r') ∧ Ch [1610] [51] nil r r' ∧ mC r' = mC r
  | 0, l, fu + 1, r, he, _, H, h54, h52 => by
    have h24 := W.1
    refine ⟨r, ?_, Ch.rfl, rfl⟩
    rw [R_agreeOf_4.eq_2, h54, if_pos (by rw [nj_le (by omega) (by omega)]; omega), show l = D.2.1 by omega]
  | e + 1, l, fu + 1, r, he, hf, H, h54, h52 => by
    have h24 := W.1
    have C2 := H.2.1
    have hl : l < D.2.1 := by omega
    have hs : bst D (agP D inf vs tk k) (l + 1) = if agP D inf vs tk k l then (match bst D (agP D inf vs tk k) l with
      | none => some l
      | some b => if D.1 11 l < D.1 11 b then some b else some l) else bst D (agP D inf vs tk k) l := rfl
    have go : ∀ r1, Ch [1610] [51] nil r r1 → mC r1 = mC r → ∃ r', R_agreeOf_4 fu (nj k) (jo (bst D (agP D inf vs tk k) (l + 1))) (nj (l + 1)) r1 = some (jo (bst D (agP D inf vs tk k) D.2.1), r') ∧ Ch [1610] [51] nil r r' ∧ mC r' = mC r := fun r1 c1 hC1 => by
      obtain ⟨r', a1, a2, a3⟩ := R_agreeOf_4_e W Wi (k := k) e (l + 1) fu r1 (by omega) (by omega) (H.Ch c1 hC1) (by rw [c1.i (by decide) (by omega)]; exact h54) (fun k hk => by rw [c1.ai (by decide) nil_no (by omega)]; exact h52 k hk)
      exact ⟨r', a1, c1.trans a2, by omega⟩
    rw [R_agreeOf_4.eq_2, h54, if_neg (by rw [nj_le (by omega) (by omega)]; omega)]
    have g1 : ∀ {β : Type} (c : Option β), gd (inb (nj l) 25) c = c := fun c => by rw [inb_nj (by omega), gd_t (decide_eq_true (by omega))]
    have g2 : ∀ {β : Type} (c : Option β), gd (inb (nj l) 24) c = c := fun c => by rw [inb_nj (by omega), gd_t (decide_eq_true (by omega))]
    simp only [g1, g2, ix_nj (show l < 2147483648 by omega)]
    rw [dat_t H.1 (x := 8) (by omega) hl, dat_t H.1 (x := 13) (by omega) hl, h52 l hl]
    unfold R_agreeOf_72 R_agreeOf_74
    simp only [vb_e, nj_add_l]
    have no : agP D inf vs tk k l = false → bst D (agP D inf vs tk k) (l + 1) = bst D (agP D inf vs tk k) l := fun q => by rw [hs, q]; rfl
    by_cases c1 : D.1 8 l = 3
    · rw [if_pos c1]
      by_cases c2 : D.1 13 l = nj k
      · rw [if_pos c2]
        have hP : agP D inf vs tk k l = (inf l && bdS D vs tk l) := by unfold agP; rw [decide_eq_true c1, decide_eq_true c2, Bool.true_and, Bool.true_and]
        cases ci : inf l with
        | false =>
          have := go r Ch.rfl rfl
          rw [no (by rw [hP, ci]; rfl)] at this
          rw [if_pos (by rfl)]; exact this
        | true =>
          rw [if_neg (by decide)]
          obtain ⟨r1, b1, b2, b3⟩ := R_isBinding_e W Wi hl H
          have G := go r1 b2 b3
          rw [b1, bn_s]
          cases cb : bdS D vs tk l with
          | false =>
            rw [no (by rw [hP, ci, cb]; rfl)] at G
            rw [if_pos (by rfl)]; exact G
          | true =>
            rw [hs, hP, ci, cb] at G
            simp only [Bool.and_self, if_true] at G
            rw [if_neg (by decide)]
            cases cc : bst D (agP D inf vs tk k) l with
            | none =>
              rw [cc] at G
              rw [if_pos (by rfl)]; exact G
            | some b =>
              have hb := ((bst_p (D := D) (P := agP D inf vs tk k) l).2 b cc).1
              rw [cc] at G
              have H1 := H.Ch b2 b3
              show ∃ r', (if nj b = -1 then _ else gd (inb (nj b) 25) (if aI r1 11 l < aI r1 11 (ix (nj b)) then _ else _)) = _ ∧ _
              rw [if_neg (by rw [nj_ne_m1 (by omega)]; exact id), inb_nj (by omega), gd_t (decide_eq_true (by omega)), ix_nj (by omega), dat_t H1.1 (x := 11) (by omega) hl, dat_t H1.1 (x := 11) (by omega) (by omega)]
              by_cases q : D.1 11 l < D.1 11 b
              · simp only [q, if_true] at G
                rw [if_pos q]; exact G
              · simp only [q, if_false] at G
                rw [if_neg q]; exact G
      · have := go r Ch.rfl rfl
        rw [no (by unfold agP; rw [decide_eq_false c2, Bool.false_and, Bool.and_false])] at this
        rw [if_neg c2]; exact this
    · have := go r Ch.rfl rfl
      rw [no (by unfold agP; rw [decide_eq_false c1, Bool.false_and])] at this
      rw [if_neg c1]; exact this
theorem R_agreeOf_e (W : WText D nc) (Wi : WItems D nc) {k : Nat} (H : HoR r D vs tk) (h54 : mI r 1554 0 = nj D.2.1) (h52 : ∀ k, k < D.2.1 → aI r 52 k = tI (inf k)) : ∃ r', R_agreeOf (nj k) r = some (jo (bst D (agP D inf vs tk k) D.2.1), r') ∧ Ch [1610] [51] nil r r' ∧ mC r' = mC r := by
  have h24 := W.1
  exact R_agreeOf_4_e W Wi D.2.1 0 FU r (by omega) (by unfold FU; omega) H h54 h52
end Ag
