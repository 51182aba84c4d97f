/-! Layer C: what holds of both between calls, and how it stays -/
/-- besides Bs and LC: tape, parting, words, names, the last FAULT's place -/
def Rst (nc : Nat) (p r : Mem) : Prop := Tp p r ∧ Prt p r ∧ KyOk (aL p 21) (aL r 7) ∧ (∀ k, k < nc → Nm2 (aL p 23 k) (aL r 35 k)) ∧ mI p 1415 0 = mI r 1553 0
/-- both between calls, after w walks -/
def Rel (nc w : Nat) (p r : Mem) : Prop := Bs nc p r ∧ LC (dat r) none r ∧ Rst nc p r ∧ mI p 1157 25 = nj w
/-- a call: the same answer, both stand again -/
def Stq {β : Type} (w : Nat) (p r : Mem) (x y : Option (β × Mem)) : Prop := ∃ v p' r' nc' w', x = some (v, p') ∧ y = some (v, r') ∧ Rel nc' w' p' r' ∧ w' ≤ w + 537600 ∧ mC p' ≤ mC p + 158 ∧ mS p' ≤ mS p + 1300
def CpF : List Nat := [0, 1, 2, 3, 4, 5, 6, 256, 257, 258, 259, 260, 261, 262, 263, 264, 265, 266, 267, 514, 515, 771, 1157, 1158, 1292, 1280, 1281, 1282, 1283, 1284, 1285, 1286, 1288, 1289, 1290, 1291]
section Ff
variable {nc w : Nat} {p r p' r' : Mem} {F A F' A' : List Nat} {dy : Nat → Prop}
theorem nin {L : List Nat} {P : Nat → Bool} (h : L.all P = true) {f : Nat} (hf : P f = false) : f ∉ L := fun hm => by
  have := List.all_eq_true.mp h f hm
  rw [hf] at this
  cases this
theorem Prt.Ch (h : Prt p r) (hp : 51 ≤ mC p) (hr : 82 ≤ mC r) (c : Ch F A dy p p') (c' : Ch F' A' nil r r') (hA : (A.all fun a => decide (a < 42 ∨ 50 < a)) = true) (hd : ∀ a, dy a → 51 ≤ a) (hF' : (F'.all fun f => f != 1651) = true) (hA' : (A'.all fun a => decide (a < 73 ∨ 76 < a)) = true) : Prt p' r' := by
  have a1 : ∀ a, 42 ≤ a → a ≤ 50 → aI p' a = aI p a := fun a h1 h2 => c.ai (nin hA (by simp; omega)) (fun q => by have := hd a q; omega) (by omega)
  have a2 : ∀ a, 73 ≤ a → a ≤ 76 → aI r' a = aI r a := fun a h1 h2 => c'.ai (nin hA' (by simp; omega)) nil_no (by omega)
  unfold Prt
  rw [a1 42 (by omega) (by omega), a1 43 (by omega) (by omega), a1 44 (by omega) (by omega), a1 45 (by omega) (by omega), a2 73 (by omega) (by omega), a2 74 (by omega) (by omega), a2 75 (by omega) (by omega), a2 76 (by omega) (by omega), c'.i (nin hF' (by simp)) (by omega), c.t (by omega), c.n (by omega), c.n (by omega), c.n (by omega), c.n (by omega), c.n (by omega)]
  exact h
theorem Tp.Ch (h : Tp p r) (hp : 51 ≤ mC p) (hr : 82 ≤ mC r) (c : Ch F A dy p p') (c' : Ch F' A' nil r r') (hF : (F.all fun f => f != 641) = true) (hA : (A.all fun a => a != 17) = true) (hd : ∀ a, dy a → 51 ≤ a) (hF' : (F'.all fun f => f != 1538) = true) (hA' : (A'.all fun a => a != 1) = true) : Tp p' r' := by
  obtain ⟨n, h1, h2, h3, h4⟩ := h
  refine ⟨n, h1, by rw [c.i (nin hF (by simp)) (by omega)]; exact h2, by rw [c'.i (nin hF' (by simp)) (by omega)]; exact h3, ?_⟩
  rw [c.ai (nin hA (by simp)) (fun q => by have := hd 17 q; omega) (by omega), c'.ai (nin hA' (by simp)) nil_no (by omega)]
  exact h4
theorem Ky_Ch (h : KyOk (aL p 21) (aL r 7)) (hp : 51 ≤ mC p) (hr : 82 ≤ mC r) (c : Ch F A dy p p') (c' : Ch F' A' nil r r') (hA : (A.all fun a => a != 21) = true) (hd : ∀ a, dy a → 51 ≤ a) (hA' : (A'.all fun a => a != 7) = true) : KyOk (aL p' 21) (aL r' 7) := by
  rw [c.al (nin hA (by simp)) (fun q => by have := hd 21 q; omega) (by omega), c'.al (nin hA' (by simp)) nil_no (by omega)]
  exact h
theorem Rst.Ch (h : Rst nc p r) (hp : 51 ≤ mC p) (hr : 82 ≤ mC r) (c : Ch F A dy p p') (c' : Ch F' A' nil r r') (hF : (F.all fun f => f != 641) = true) (hF2 : (F.all fun f => f != 1415) = true) (hA : (A.all fun a => a != 17) = true) (hA2 : (A.all fun a => a != 21) = true) (hA3 : (A.all fun a => a != 23) = true) (hA4 : (A.all fun a => decide (a < 42 ∨ 50 < a)) = true) (hd : ∀ a, dy a → 51 ≤ a) (hF' : (F'.all fun f => f != 1538) = true) (hF2' : (F'.all fun f => f != 1553) = true) (hF3' : (F'.all fun f => f != 1651) = true) (hA' : (A'.all fun a => a != 1) = true) (hA2' : (A'.all fun a => a != 7) = true) (hA3' : (A'.all fun a => a != 35) = true) (hA4' : (A'.all fun a => decide (a < 73 ∨ 76 < a)) = true) : Rst nc p' r' := by
  obtain ⟨h1, h2, h3, h4, h5⟩ := h
  refine ⟨h1.Ch hp hr c c' hF hA hd hF' hA', h2.Ch hp hr c c' hA4 hd hF3' hA4', Ky_Ch h3 hp hr c c' hA2 hd hA2', ?_, ?_⟩
  · rw [c.al (nin hA3 (by simp)) (fun q => by have := hd 23 q; omega) (by omega), c'.al (nin hA3' (by simp)) nil_no (by omega)]
    exact h4
  · rw [c.i (nin hF2 (by simp)) (by omega), c'.i (nin hF2' (by simp)) (by omega)]
    exact h5
/-- the core, where nothing of the data changes -/
theorem Bs.fr (h : Bs nc p r) (hL : Land p' r') (c : Ch F A nil p p') (c' : Ch F' A' nil r r') (hC : mC r' = mC r) (hF : (F.all fun f => !CpF.contains f) = true) (hA : (A.all fun a => decide (a ≠ 14 ∧ a ≠ 15 ∧ a ≠ 26 ∧ a < 50)) = true) (hPL : (F.all fun f => !(P_refs.any fun q => q.1 == f)) = true) (hF1 : (F'.all fun f => f != 1554 && f != 1601) = true) (hF2 : (F'.all fun f => f != 1584) = true) (hF3 : (F'.all fun f => f < 1612 || 1614 < f) = true) (hF4 : (F'.all fun f => f != 1622) = true) (hA1 : (A'.all fun a => a < 8 || a == 35 || a == 36 || (38 < a && a < 43) || 49 < a) = true) (hA2 : (A'.all fun a => a < 52 || 58 < a) = true) : Bs nc p' r' ∧ dat r' = dat r := by
  obtain ⟨hc, Ld, hp, Wi, hB, hT⟩ := h
  have C2 := hc.2.1
  have c1 : Core nc p' r := hc.Chp (hc.1.Ch c) c (fun f hf hm => by
    have h1 := List.all_eq_true.mp hF f hm
    have h2 : f ∈ CpF := by
      unfold CpF
      simp only [List.mem_cons, List.not_mem_nil, or_false] at hf ⊢
      omega
    simp at h1
    exact h1 h2) (fun a ha hm => by
    have h1 := of_decide_eq_true (List.all_eq_true.mp hA a hm)
    omega)
  obtain ⟨k1, k2⟩ := c1.R c' hC hF1 (nin hF2 (by simp)) hA1
  exact ⟨⟨k1, hL, hp.Ch c hPL, by rw [k2]; exact Wi, by rw [k2]; exact hB.Ch c' C2 hF3 hA2, by rw [c'.i (nin hF4 (by simp)) (by omega)]; exact hT⟩, k2⟩
/-- data that differ in what THE LAND and weights say alone -/
def Zp (D D' : Dt) : Prop := D'.2 = D.2 ∧ ∀ a, a ≠ 37 → a ≠ 38 → a ≠ 43 → D'.1 a = D.1 a
def zap (D : Dt) : Dt := (fun a => if a = 37 ∨ a = 38 ∨ a = 43 then fun _ => 0 else D.1 a, D.2)
theorem zap_eq {D D' : Dt} (h : Zp D D') : zap D' = zap D := by
  unfold zap
  rw [h.1]
  refine Prod.ext ?_ rfl
  funext a
  show (if a = 37 ∨ a = 38 ∨ a = 43 then fun _ => 0 else D'.1 a) = if a = 37 ∨ a = 38 ∨ a = 43 then fun _ => 0 else D.1 a
  by_cases q : a = 37 ∨ a = 38 ∨ a = 43
  · rw [if_pos q, if_pos q]
  · rw [if_neg q, if_neg q, h.2 a (fun z => q (Or.inl z)) (fun z => q (Or.inr (Or.inl z))) (fun z => q (Or.inr (Or.inr z)))]
end Ff
section Zz
variable {nc : Nat} {p : Mem} {D : Dt} {fa ta ia sa ca : Nat → Nat} {od : List Nat}
theorem zap_WText : WText (zap D) nc = WText D nc := rfl
theorem zap_WFact : WFact (zap D) nc = WFact D nc := rfl
theorem zap_LFact : LFact fa ta p (zap D) = LFact fa ta p D := rfl
theorem zap_LText : LText ta ia p (zap D) = LText ta ia p D := rfl
theorem zap_LOrd : LOrd ta od p (zap D) = LOrd ta od p D := rfl
theorem zap_LSep : LSep fa ta ia sa ca (zap D) = LSep fa ta ia sa ca D := rfl
theorem zap_Sc : Sc ta p (zap D) = Sc ta p D := rfl
theorem zap_wfC : ∀ (n c d : Nat), wfC (zap D) c n d = wfC D c n d
  | 0, _, _ => rfl
  | n + 1, c, d => by
    unfold wfC
    simp only [zap_wfC n]
    rfl
theorem zap_WLit (l : Nat) : WLit (zap D) l = WLit D l := by
  unfold WLit
  simp only [zap_wfC]
  rfl
theorem zap_WItems : WItems (zap D) nc = WItems D nc := by
  unfold WItems WItem
  simp only [zap_wfC, zap_WLit]
  rfl
theorem zap_claim {s aw nm : Int32} : ∀ n, claimS (zap D) s aw nm n = claimS D s aw nm n
  | 0 => rfl
  | n + 1 => by
    unfold claimS
    rw [zap_claim n]
    rfl
theorem zap_seg {a b : Nat} : segS (zap D) a b = segS D a b := rfl
theorem zap_lit {nt : Nat → Nat} {l : Nat} : litS (zap D) nt l = litS D nt l := rfl
theorem zap_con {nt : Nat → Nat} (pa po : Bool) (L : List Nat) : conS (zap D) nt pa po L = conS D nt pa po L := conS_cg pa po L (fun _ _ => ⟨rfl, rfl⟩)
theorem zap_Item {k i a s c : Nat} : ItemAt p (zap D) k i a s c = ItemAt p D k i a s c := by
  unfold ItemAt logS ansS
  simp only [zap_claim, zap_con]
  rfl
theorem zap_LItem : LItem ia sa ca p (zap D) = LItem ia sa ca p D := by
  unfold LItem
  simp only [zap_Item]
  rfl
theorem Core.zap {r r' : Mem} (h : Core nc p r) (hz : Zp (dat r) (dat r')) (e1 : mI r' 1601 0 = mI r 1601 0) (e2 : mI r' 1554 0 = mI r 1554 0) (e3 : mI r' 1584 0 = mI r 1584 0) (hC : mC r' = mC r) : Core nc p r' := by
  have z := zap_eq hz
  obtain ⟨T, C2, W1, W2, g1, g2, g3, g4, g5, fa, ta, ia, sa, ca, od, ⟨L1, L2, L3, L4, L5⟩, hSc⟩ := h
  rw [← zap_WText, ← z, zap_WText] at W1
  rw [← zap_WFact, ← z, zap_WFact] at W2
  rw [← zap_LFact, ← z, zap_LFact] at L1
  rw [← zap_LText, ← z, zap_LText] at L2
  rw [← zap_LOrd, ← z, zap_LOrd] at L3
  rw [← zap_LItem, ← z, zap_LItem] at L4
  rw [← zap_LSep, ← z, zap_LSep] at L5
  rw [← zap_Sc, ← z, zap_Sc] at hSc
  exact ⟨T, by omega, W1, W2, by rw [e1, hz.1]; exact g1, by rw [e2, hz.1]; exact g2, g3, g4, by rw [e3]; exact g5, fa, ta, ia, sa, ca, od, ⟨L1, L2, L3, L4, L5⟩, hSc⟩
theorem WItems.zap {D' : Dt} (h : WItems D nc) (hz : Zp D D') : WItems D' nc := by
  rw [← zap_WItems, ← zap_eq hz, zap_WItems] at h
  exact h
end Zz
