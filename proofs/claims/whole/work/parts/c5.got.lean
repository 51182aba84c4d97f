/-! Layer C: what an ITEM leaves on both sides -/
/-- a class's margin is its own, or tied -/
def GTie (a i nm : Nat) (p r : Mem) : Prop := (aI r 18 i = 0 ∧ mI p 260 a = -1 ∧ mI p 261 a = -1) ∨ (aI r 18 i = 1 ∧ ∃ u w, u < nm ∧ w < nm ∧ u < 600 ∧ w < 600 ∧ aI r 19 i = nj u ∧ aI r 20 i = nj w ∧ mI p 260 a = (if u < 60 then nj u else -1) ∧ mI p 261 a = (if w < 60 then nj w else -1))
def GSum (i sA cc : Nat) (p r : Mem) : Prop := ∃ (c0 : Nat) (L : List (Nat × Nat)), aI r 21 i = nj c0 ∧ aI r 22 i = nj (c0 + L.length) ∧ c0 + L.length ≤ cc ∧ Seg r c0 L ∧ wfL L 0 1 ∧ Arr p sA (L.map enN)
def GLit (x lo hi cc : Nat) (r : Mem) : Prop := (lo < hi → aI r 29 lo = 1) ∧ (∀ k, lo ≤ k → k < hi → LB r k cc) ∧ (mI r 1551 0 = 0 → ∀ k, lo ≤ k → k < hi → WLit (rwD r x) k)
def GCon (x lo hi cA : Nat) (p r : Mem) : Prop := ∃ nt : Nat → Nat, (∀ k, lo ≤ k → k < hi → aI r 28 k = tI (odd (nt k))) ∧ Arr p cA (conS (rwD r x) nt false false (List.range' lo (hi - lo)))
def GNam (a i nm : Nat) (p r : Mem) : Prop := ∃ u, u < nm ∧ u < 600 ∧ aI r 16 i = nj u ∧ mI p 258 a = (if u < 60 then nj u else -1)
def GTop (p r : Mem) (i a lo hi cc s sA cA : Nat) : Prop := s ≤ 8 ∧ aI r 15 i = nj s ∧ 51 ≤ a ∧ mT p a = 3 ∧ mI p 256 a = nj (s + 32) ∧ mR p 262 a = some sA ∧ mR p 263 a = some cA ∧ 51 ≤ sA ∧ 51 ≤ cA ∧ mT p sA = 32 ∧ mT p cA = 32 ∧ aI r 23 i = nj lo ∧ lo ≤ hi ∧ cc < 20000
def Got (p r : Mem) (x i a nm lo hi cc s sA cA : Nat) : Prop := GTop p r i a lo hi cc s sA cA ∧
  (s = 1 ∨ s = 2 ∨ s = 4 ∨ s = 5 ∨ s = 7 ∨ s = 8 → GNam a i nm p r) ∧ (s = 0 ∨ s = 3 ∨ s = 6 → aI r 16 i = -1 ∧ mI p 258 a = -1) ∧
  (s = 2 → Tb a i p r ∧ GTie a i nm p r) ∧ (s ≠ 2 → mI p 260 a = -1) ∧
  (s = 2 ∨ s = 4 ∨ s = 5 ∨ s = 8 → GSum i sA cc p r) ∧ (s = 0 → lo < hi) ∧ GLit x lo hi cc r ∧
  (s = 0 ∨ s = 4 ∨ s = 5 → GCon x lo hi cA p r) ∧ (s = 4 ∨ s = 5 → ∃ k, Bb a i nm k p r) ∧
  (s = 3 → ∃ k, k < 3 ∧ aI r 17 i = nj k ∧ mI p 265 a = nj (k + 51)) ∧
  (s = 6 → ∃ v, v ≤ 9999 ∧ aI r 17 i = nj v ∧ mI p 265 a = nj v ∧ (mI r 1551 0 = 0 → 1 ≤ v ∧ v ≤ 240))
/-- a new ITEM of the class, of the reference -/
def FrP (a s0 c0 : Nat) (p : Mem) : Prop := mI p 258 a = -1 ∧ mI p 259 a = 0 ∧ mI p 260 a = -1 ∧ mI p 261 a = -1 ∧ mL p 264 a = 0 ∧ mR p 262 a = some s0 ∧ mR p 263 a = some c0 ∧ 51 ≤ s0 ∧ 51 ≤ c0 ∧ Arr p s0 [] ∧ Arr p c0 [] ∧ a < s0 ∧ a < c0
def FrR (i s l c : Nat) (r : Mem) : Prop := aI r 15 i = nj s ∧ aI r 16 i = -1 ∧ aI r 17 i = 0 ∧ aI r 18 i = 0 ∧ aI r 25 i = 0 ∧ aI r 21 i = nj c ∧ aI r 22 i = nj c ∧ aI r 23 i = nj l
set_option maxRecDepth 100000 in
/-- the reference behind an ITEM's first word -/
def RBod (x1 v2 : Int32) (m36 : Mem) : Option (Unit × Mem) :=
  if x1 = 0 then (
    bn (R_must 27 m36) fun _ m41 =>
    bn (R_cond m41) fun _ m45 =>
    R_tellItem_501 v2 m45)
  else   if x1 = 1 then (
    bn (R_name m36) fun r49 m50 =>
    gd (inb v2 750) <|
    vb (wI m50 16 (ix v2) r49) fun m56 =>
    R_tellItem_501 v2 m56)
  else   if x1 = 2 then (
    bn (R_tellClass v2 m36) fun _ m59 =>
    R_tellItem_501 v2 m59)
  else   if x1 = 3 then (
    gd (inb (mI m36 1547 0) 503) <|
    vb ((aI m36 3 (ix (mI m36 1547 0))) - 35 : Int32) fun v64 =>
    if (mI m36 1549 0) = 0 then (
      if v64 < 0 then (
        R_tellItem_426 v2 v64 m36)
      else (
        if v64 ≤ 2 then (
          R_tellItem_431 v2 v64 m36)
        else (
          R_tellItem_426 v2 v64 m36)))
    else (
      R_tellItem_431 v2 v64 m36))
  else   if x1 = 4 then (
    bn (R_tellLoad v2 m36) fun _ m70 =>
    R_tellItem_501 v2 m70)
  else   if x1 = 5 then (
    bn (R_tellLoad v2 m36) fun _ m75 =>
    R_tellItem_501 v2 m75)
  else   if x1 = 6 then (
    bn (R_number 1 240 m36) fun r79 m80 =>
    gd (inb v2 750) <|
    vb (wI m80 17 (ix v2) r79) fun m86 =>
    R_tellItem_501 v2 m86)
  else   if x1 = 7 then (
    bn (R_name m36) fun r88 m89 =>
    gd (inb v2 750) <|
    vb (wI m89 16 (ix v2) r88) fun m95 =>
    R_tellItem_501 v2 m95)
  else   if x1 = 8 then (
    bn (R_name m36) fun r97 m98 =>
    gd (inb v2 750) <|
    vb (wI m98 16 (ix v2) r97) fun m104 =>
    bn (R_must 43 m104) fun _ m106 =>
    bn (R_expression m106) fun _ m110 =>
    gd (inb v2 750) <|
    vb (wI m110 22 (ix v2) (mI m110 1581 0)) fun m116 =>
    R_tellItem_501 v2 m116)
  else (
    bn (R_tellLoad v2 m36) fun _ m118 =>
    R_tellItem_501 v2 m118)
section Bo
variable {N : Nat} {kd pl : Nat → Nat} {x a i l c s0 c0 : Nat} {p r : Mem} {t nm : Nat}
/-- what both sides do with a body: alike, or failed -/
def BOut (N : Nat) (kd pl : Nat → Nat) (x a i l c s : Nat) (p r : Mem) (t nm : Nat) : Prop :=
    (∃ p' r' t' nm' l' c' sA cA, P_Parser_takeBody (some a) p = some (1, p') ∧ RBod (nj s) (nj i) r = R_tellItem_501 (nj i) r' ∧ Pi N kd pl x p' r' t' nm' l' c' ∧ Sp 2 a i l c p r p' r' t t' nm nm' ∧ l ≤ l' ∧ c ≤ c' ∧ t ≤ t' ∧ (a < sA ∧ a < cA) ∧ Got p' r' x i a nm' l l' c' s sA cA) ∨
    (∃ p' r', P_Parser_takeBody (some a) p = some (0, p') ∧ RBod (nj s) (nj i) r = some ((), r') ∧ Bi 2 a i l c t nm p r p' r')
theorem Sp.up {n n' : Nat} {p' r' : Mem} {t' nm' : Nat} (h : Sp n a i l c p r p' r' t t' nm nm') (hn : n ≤ n') : Sp n' a i l c p r p' r' t t' nm nm' := by
  obtain ⟨s1, s2, s3, s4, s5⟩ := h
  exact ⟨s1, s2, s3, by omega, s5⟩
theorem GLit.no : GLit x l l c r := ⟨(fun q => by omega), (fun k q1 q2 => by omega), (fun _ k q1 q2 => by omega)⟩
theorem Arr.ci {b : Nat} {L : List Int32} {p' : Mem} (h : Arr p b L) (T : Top p) (k : Ci a p p') (hb : 51 ≤ b) : Arr p' b L := h.Ch T k.1 (by simp only [List.mem_cons, List.not_mem_nil, or_false]; omega) (fun z => z)
theorem Pi.c2 (h : Pi N kd pl x p r t nm l c) : c < 20000 := by
  have := h.tN
  have := h.2.2.2.2.2.2.2.2
  omega
theorem body0 (h : Pi N kd pl x p r t nm l c) (ht : 4 ≤ t) (hi : i < 750) (h51 : 51 ≤ a) (h256 : mI p 256 a = nj 32) (ha : mT p a = 3) (hp : FrP a s0 c0 p) (hr : FrR i 0 l c r) : BOut N kd pl x a i l c 0 p r t nm := by
  obtain ⟨p1, p2, p3, p4, p5, p6, p7, p8, p9, p10, p11, p12, p13⟩ := hp
  obtain ⟨r1, r2, r3, r4, r5, r6, r7, r8⟩ := hr
  have la : a < mC p := h.T.lt (by rw [ha]; decide)
  have ls : s0 < mC p := h.T.lt (by rw [p10.1]; decide)
  unfold BOut
  rw [show RBod (nj 0) (nj i) r = (bn (R_must 27 r) fun _ m41 => bn (R_cond m41) fun _ m45 => R_tellItem_501 (nj i) m45) by unfold RBod; rw [if_pos (show nj 0 = 0 by decide)]]
  rcases binds_j (a := a) (i := i) h ht hi h256 ha with ⟨p', r', t', l', c', nt, d1, d2, d3, d4, d5, d6, d7, d8, d9, d10, d11, d12, d13, d14, d15, d16⟩ | ⟨p', r', d1, d2, d3⟩
  · left
    have hA := p10.ci h.T d4.1 p8
    refine ⟨p', r', t', nm, l', c', s0, mC p, d1, d2, d3, d4.up (by omega), by omega, d6, d4.2.2.2.2.2.1, ⟨p12, la⟩, ⟨by omega, by rw [d15 15 i (by omega) (by omega)]; exact r1, h51, by rw [d14 a la]; exact ha, by rw [(d13 256 (by omega) (by omega) (by omega) (by omega)).1]; exact h256, by rw [d12]; exact p6, d11, p8, h.T.1, hA.1, d10.1, by rw [d15 23 i (by omega) (by omega)]; exact r8, by omega, d3.c2⟩, (fun q => by omega), fun _ => ⟨by rw [d15 16 i (by omega) (by omega)]; exact r2, by rw [(d13 258 (by omega) (by omega) (by omega) (by omega)).1]; exact p1⟩, (fun q => by omega), fun _ => by rw [(d13 260 (by omega) (by omega) (by omega) (by omega)).1]; exact p3, (fun q => by omega), fun _ => d5, ⟨fun _ => d7, d16, d9⟩, fun _ => ⟨nt, d8, d10⟩, (fun q => by omega), (fun q => by omega), (fun q => by omega)⟩
  · right
    exact ⟨p', r', d1, d2, d3.up (by omega)⟩
theorem bodyN {s : Nat} (h : Pi N kd pl x p r t nm l c) (hi : i < 750) (h51 : 51 ≤ a) (hs : s = 1 ∨ s = 7) (h256 : mI p 256 a = nj (s + 32)) (ha : mT p a = 3) (hp : FrP a s0 c0 p) (hr : FrR i s l c r) : BOut N kd pl x a i l c s p r t nm := by
  obtain ⟨p1, p2, p3, p4, p5, p6, p7, p8, p9, p10, p11, p12, p13⟩ := hp
  obtain ⟨r1, r2, r3, r4, r5, r6, r7, r8⟩ := hr
  have la : a < mC p := h.T.lt (by rw [ha]; decide)
  have eB : P_Parser_takeBody (some a) p = bn (P_Parser_takeItemName (some a) p) fun r15 m16 => gz r15 (some (r15, m16)) := by
    unfold P_Parser_takeBody
    rw [gs_s, gt_t ha]
    rcases hs with e | e
    · subst e
      rw [h256, if_neg (show ¬ nj (1 + 32) = 32 by decide), if_pos (show nj (1 + 32) = 33 from rfl)]
    · subst e
      rw [h256, if_neg (show ¬ nj (7 + 32) = 32 by decide), if_neg (show ¬ nj (7 + 32) = 33 by decide), if_neg (show ¬ nj (7 + 32) = 34 by decide), if_neg (show ¬ nj (7 + 32) = 35 by decide), if_neg (show ¬ nj (7 + 32) = 36 by decide), if_neg (show ¬ nj (7 + 32) = 37 by decide), if_neg (show ¬ nj (7 + 32) = 38 by decide), if_pos (show nj (7 + 32) = 39 from rfl)]
  have eR : RBod (nj s) (nj i) r = bn (R_name r) fun r1 m2 => gd (inb (nj i) 750) (vb (wI m2 16 (ix (nj i)) r1) fun m => R_tellItem_501 (nj i) m) := by
    unfold RBod
    rcases hs with e | e
    · subst e
      rw [if_neg (show ¬ nj 1 = 0 by decide), if_pos (show nj 1 = 1 from rfl)]
    · subst e
      rw [if_neg (show ¬ nj 7 = 0 by decide), if_neg (show ¬ nj 7 = 1 by decide), if_neg (show ¬ nj 7 = 2 by decide), if_neg (show ¬ nj 7 = 3 by decide), if_neg (show ¬ nj 7 = 4 by decide), if_neg (show ¬ nj 7 = 5 by decide), if_neg (show ¬ nj 7 = 6 by decide), if_pos (show nj 7 = 7 from rfl)]
  unfold BOut
  rw [eB, eR]
  rcases only_j (a := a) (i := i) h ha hi with ⟨v, nm', p', r', d1, d2, d3, d4, d5, d6, d7, d8, d9, d10, d11, d12⟩ | ⟨p', r', d1, d2, d3⟩
  · left
    have hA := p10.ci h.T d4.1 p8
    have hA' := p11.ci h.T d4.1 p9
    exact ⟨p', r', t + 1, nm', l, c, s0, c0, d1, d2, d3, d4.up (by omega), Nat.le_refl _, Nat.le_refl _, by omega, ⟨p12, p13⟩, ⟨by omega, by rw [d11 15 i (by omega) (by omega) (by omega)]; exact r1, h51, by rw [d10 a la]; exact ha, by rw [(d9 256 (by omega) (by omega)).1 (by omega)]; exact h256, by rw [(d9 262 (by omega) (by omega)).2.2]; exact p6, by rw [(d9 263 (by omega) (by omega)).2.2]; exact p7, p8, p9, hA.1, hA'.1, by rw [d11 23 i (by omega) (by omega) (by omega)]; exact r8, Nat.le_refl _, h.c2⟩, fun _ => ⟨v, d5, d6, d7, d8⟩, (fun q => by omega), (fun q => by omega), fun _ => by rw [(d9 260 (by omega) (by omega)).1 (by omega)]; exact p3, (fun q => by omega), (fun q => by omega), GLit.no, (fun q => by omega), (fun q => by omega), (fun q => by omega), (fun q => by omega)⟩
  · right
    exact ⟨p', r', d1, d2, d3.up (by omega)⟩
theorem body3 (h : Pi N kd pl x p r t nm l c) (hi : i < 750) (h51 : 51 ≤ a) (h256 : mI p 256 a = nj 35) (ha : mT p a = 3) (hp : FrP a s0 c0 p) (hr : FrR i 3 l c r) : BOut N kd pl x a i l c 3 p r t nm := by
  obtain ⟨p1, p2, p3, p4, p5, p6, p7, p8, p9, p10, p11, p12, p13⟩ := hp
  obtain ⟨r1, r2, r3, r4, r5, r6, r7, r8⟩ := hr
  have eR : RBod (nj 3) (nj i) r = (gd (inb (mI r 1547 0) 503) (vb (aI r 3 (ix (mI r 1547 0)) - 35 : Int32) fun v64 => if mI r 1549 0 = 0 then (if v64 < 0 then R_tellItem_426 (nj i) v64 r else if v64 ≤ 2 then R_tellItem_431 (nj i) v64 r else R_tellItem_426 (nj i) v64 r) else R_tellItem_431 (nj i) v64 r)) := by
    unfold RBod
    rw [if_neg (show ¬ nj 3 = 0 by decide), if_neg (show ¬ nj 3 = 1 by decide), if_neg (show ¬ nj 3 = 2 by decide), if_pos (show nj 3 = 3 from rfl)]
  unfold BOut
  rw [eR]
  rcases choose_j (a := a) (i := i) h hi h256 ha with ⟨k, p', r', d0, d1, d2, d3, d4, d5, d6, d7, d8, d9, d10, d11, d12⟩ | ⟨p', r', d1, d2, d3⟩
  · left
    have hA := p10.ci h.T d4.1 p8
    have hA' := p11.ci h.T d4.1 p9
    exact ⟨p', r', t + 1, nm, l, c, s0, c0, d1, d2, d3, d4.up (by omega), Nat.le_refl _, Nat.le_refl _, by omega, ⟨p12, p13⟩, ⟨by omega, by rw [d11 15 i (by omega)]; exact r1, h51, by rw [d10]; exact ha, by rw [d7 256 (by omega) (by omega)]; exact h256, by rw [d9]; exact p6, by rw [d9]; exact p7, p8, p9, hA.1, hA'.1, by rw [d11 23 i (by omega)]; exact r8, Nat.le_refl _, h.c2⟩, (fun q => by omega), fun _ => ⟨by rw [d11 16 i (by omega)]; exact r2, by rw [d7 258 (by omega) (by omega)]; exact p1⟩, (fun q => by omega), fun _ => by rw [d7 260 (by omega) (by omega)]; exact p3, (fun q => by omega), (fun q => by omega), GLit.no, (fun q => by omega), (fun q => by omega), fun _ => ⟨k, d0, d5, d6⟩, (fun q => by omega)⟩
  · right
    exact ⟨p', r', d1, d2, d3.up (by omega)⟩
theorem body6 (h : Pi N kd pl x p r t nm l c) (hi : i < 750) (h51 : 51 ≤ a) (h256 : mI p 256 a = nj 38) (ha : mT p a = 3) (hp : FrP a s0 c0 p) (hr : FrR i 6 l c r) : BOut N kd pl x a i l c 6 p r t nm := by
  obtain ⟨p1, p2, p3, p4, p5, p6, p7, p8, p9, p10, p11, p12, p13⟩ := hp
  obtain ⟨r1, r2, r3, r4, r5, r6, r7, r8⟩ := hr
  have eR : RBod (nj 6) (nj i) r = (bn (R_number 1 240 r) fun r79 m80 => gd (inb (nj i) 750) (vb (wI m80 17 (ix (nj i)) r79) fun m86 => R_tellItem_501 (nj i) m86)) := by
    unfold RBod
    rw [if_neg (show ¬ nj 6 = 0 by decide), if_neg (show ¬ nj 6 = 1 by decide), if_neg (show ¬ nj 6 = 2 by decide), if_neg (show ¬ nj 6 = 3 by decide), if_neg (show ¬ nj 6 = 4 by decide), if_neg (show ¬ nj 6 = 5 by decide), if_pos (show nj 6 = 6 from rfl)]
  unfold BOut
  rw [eR]
  rcases round_j (a := a) (i := i) h hi h256 ha with ⟨v, p', r', d0, d1, d2, d3, d4, d5, d6, d7, d8, d9, d10, d11, d12⟩ | ⟨p', r', d1, d2, d3⟩
  · left
    have hA := p10.ci h.T d4.1 p8
    have hA' := p11.ci h.T d4.1 p9
    exact ⟨p', r', t + 1, nm, l, c, s0, c0, d1, d2, d3, d4.up (by omega), Nat.le_refl _, Nat.le_refl _, by omega, ⟨p12, p13⟩, ⟨by omega, by rw [d12 15 i (by omega)]; exact r1, h51, by rw [d11]; exact ha, by rw [d8 256 (by omega) (by omega) (by omega)]; exact h256, by rw [d10]; exact p6, by rw [d10]; exact p7, p8, p9, hA.1, hA'.1, by rw [d12 23 i (by omega)]; exact r8, Nat.le_refl _, h.c2⟩, (fun q => by omega), fun _ => ⟨by rw [d12 16 i (by omega)]; exact r2, by rw [d8 258 (by omega) (by omega) (by omega)]; exact p1⟩, (fun q => by omega), fun _ => by rw [d8 260 (by omega) (by omega) (by omega)]; exact p3, (fun q => by omega), (fun q => by omega), GLit.no, (fun q => by omega), (fun q => by omega), (fun q => by omega), fun _ => ⟨v, d0, d5, d6, d7⟩⟩
  · right
    exact ⟨p', r', d1, d2, d3.up (by omega)⟩
theorem body8 (h : Pi N kd pl x p r t nm l c) (ht : 4 ≤ t) (hi : i < 750) (h51 : 51 ≤ a) (h256 : mI p 256 a = nj 40) (ha : mT p a = 3) (hp : FrP a s0 c0 p) (hr : FrR i 8 l c r) : BOut N kd pl x a i l c 8 p r t nm := by
  obtain ⟨p1, p2, p3, p4, p5, p6, p7, p8, p9, p10, p11, p12, p13⟩ := hp
  obtain ⟨r1, r2, r3, r4, r5, r6, r7, r8⟩ := hr
  have la : a < mC p := h.T.lt (by rw [ha]; decide)
  have eR : RBod (nj 8) (nj i) r = (bn (R_name r) fun r1 m2 => gd (inb (nj i) 750) (vb (wI m2 16 (ix (nj i)) r1) fun m104 => bn (R_must 43 m104) fun _ m106 => bn (R_expression m106) fun _ m110 => gd (inb (nj i) 750) (vb (wI m110 22 (ix (nj i)) (mI m110 1581 0)) fun m116 => R_tellItem_501 (nj i) m116))) := by
    unfold RBod
    rw [if_neg (show ¬ nj 8 = 0 by decide), if_neg (show ¬ nj 8 = 1 by decide), if_neg (show ¬ nj 8 = 2 by decide), if_neg (show ¬ nj 8 = 3 by decide), if_neg (show ¬ nj 8 = 4 by decide), if_neg (show ¬ nj 8 = 5 by decide), if_neg (show ¬ nj 8 = 6 by decide), if_neg (show ¬ nj 8 = 7 by decide), if_pos (show nj 8 = 8 from rfl)]
  unfold BOut
  rw [eR]
  rcases margin_j (a := a) (i := i) h ht hi h256 ha with ⟨v, nm', p', r', t', L, d1, d2, d3, d4, d5, d6, d7, d8, d9, d10, d11, d12, d13, d14, d15, d16, d17⟩ | ⟨p', r', d1, d2, d3⟩
  · left
    have hA' := p11.ci h.T d4.1 p9
    exact ⟨p', r', t', nm', l, c + L.length, mC p, c0, d1, d2, d3, d4.up (by omega), Nat.le_refl _, by omega, d4.2.2.2.2.2.1, ⟨la, p13⟩, ⟨by omega, by rw [d17 15 i (by omega) (by omega) (by omega) (by omega)]; exact r1, h51, by rw [d16 a la]; exact ha, by rw [(d15 256 (by omega) (by omega) (by omega) (by omega)).1 (by omega)]; exact h256, d12, by rw [d13]; exact p7, h.T.1, p9, d14.1, hA'.1, by rw [d17 23 i (by omega) (by omega) (by omega) (by omega)]; exact r8, Nat.le_refl _, d3.c2⟩, fun _ => ⟨v, d5, d6, d7, d8⟩, (fun q => by omega), (fun q => by omega), fun _ => by rw [(d15 260 (by omega) (by omega) (by omega) (by omega)).1 (by omega)]; exact p3, fun _ => ⟨c, L, by rw [d17 21 i (by omega) (by omega) (by omega) (by omega)]; exact r6, d9, Nat.le_refl _, d10, d11, d14⟩, (fun q => by omega), GLit.no, (fun q => by omega), (fun q => by omega), (fun q => by omega), (fun q => by omega)⟩
  · right
    exact ⟨p', r', d1, d2, d3.up (by omega)⟩
theorem body2 (h : Pi N kd pl x p r t nm l c) (ht : 4 ≤ t) (hi : i < 750) (h51 : 51 ≤ a) (h256 : mI p 256 a = nj 34) (ha : mT p a = 3) (hp : FrP a s0 c0 p) (hr : FrR i 2 l c r) : BOut N kd pl x a i l c 2 p r t nm := by
  obtain ⟨p1, p2, p3, p4, p5, p6, p7, p8, p9, p10, p11, p12, p13⟩ := hp
  obtain ⟨r1, r2, r3, r4, r5, r6, r7, r8⟩ := hr
  have la : a < mC p := h.T.lt (by rw [ha]; decide)
  have eR : RBod (nj 2) (nj i) r = (bn (R_tellClass (nj i) r) fun _ m59 => R_tellItem_501 (nj i) m59) := by
    unfold RBod
    rw [if_neg (show ¬ nj 2 = 0 by decide), if_neg (show ¬ nj 2 = 1 by decide), if_pos (show nj 2 = 2 from rfl)]
  unfold BOut
  rw [eR]
  rcases class_j (a := a) (i := i) h ht hi h256 ha p2 r3 with ⟨v, nm1, q1, q2, t1, p', r', t', nm', L, d1, d2, d3, d4, d5, d6, d7, d8, d9, d10, d11, d12, d13, d14, d15, d16, d17⟩ | ⟨p', r', d1, d2, d3⟩
  · left
    obtain ⟨m1, m2, m3, m4, m5, m6, m7, m8, m9, m10, m11, m12, m13⟩ := d3
    have hA' := p11.ci h.T d8.1 p9
    rw [d4] at m7 m9
    rw [d2, bn_s]
    refine ⟨p', r', t', nm', l, c + L.length, mC p, c0, d1, rfl, m1, d8.up (by omega), Nat.le_refl _, by omega, d8.2.2.2.2.2.1, ⟨la, p13⟩, ⟨by omega, by rw [d17 15 i (by omega) (by omega) (by omega)]; exact r1, h51, by rw [d16 a la]; exact ha, by rw [d15 256 (by omega) (by omega) (by omega) (by omega) (by omega) (by omega) (by omega) (by omega)]; exact h256, m7, by rw [m8, d5]; exact p7, h.T.1, p9, m9.1, hA'.1, by rw [d17 23 i (by omega) (by omega) (by omega)]; exact r8, Nat.le_refl _, m1.c2⟩, fun _ => ⟨v, by omega, d10, d12, d13⟩, (fun q => by omega), fun _ => ⟨d14, ?_⟩, fun q => absurd rfl q, fun _ => ⟨c, L, m3, m4, Nat.le_refl _, m5, m6, m9⟩, (fun q => by omega), GLit.no, (fun q => by omega), (fun q => by omega), (fun q => by omega), (fun q => by omega)⟩
    rcases m10 with ⟨w1, w2, w3⟩ | w
    · exact Or.inl ⟨w1, by rw [w2, d6]; exact p3, by rw [w3, d7]; exact p4⟩
    · exact Or.inr w
  · right
    obtain ⟨r'', g1, g2⟩ := d3.go (F := fun m => R_tellItem_501 (nj i) m) h.p82 (fun d q hq _ => e501_f hq hi)
    rw [d2, bn_s]
    exact ⟨p', r'', d1, g1, g2.up (by omega)⟩
theorem bodyL {s : Nat} (h : Pi N kd pl x p r t nm l c) (ht : 4 ≤ t) (hi : i < 750) (h51 : 51 ≤ a) (hs : s = 4 ∨ s = 5) (h256 : mI p 256 a = nj (s + 32)) (ha : mT p a = 3) (hp : FrP a s0 c0 p) (hr : FrR i s l c r) : BOut N kd pl x a i l c s p r t nm := by
  obtain ⟨p1, p2, p3, p4, p5, p6, p7, p8, p9, p10, p11, p12, p13⟩ := hp
  obtain ⟨r1, r2, r3, r4, r5, r6, r7, r8⟩ := hr
  have la : a < mC p := h.T.lt (by rw [ha]; decide)
  have eR : RBod (nj s) (nj i) r = (bn (R_tellLoad (nj i) r) fun _ m59 => R_tellItem_501 (nj i) m59) := by
    unfold RBod
    rcases hs with e | e
    · subst e
      rw [if_neg (show ¬ nj 4 = 0 by decide), if_neg (show ¬ nj 4 = 1 by decide), if_neg (show ¬ nj 4 = 2 by decide), if_neg (show ¬ nj 4 = 3 by decide), if_pos (show nj 4 = 4 from rfl)]
    · subst e
      rw [if_neg (show ¬ nj 5 = 0 by decide), if_neg (show ¬ nj 5 = 1 by decide), if_neg (show ¬ nj 5 = 2 by decide), if_neg (show ¬ nj 5 = 3 by decide), if_neg (show ¬ nj 5 = 4 by decide), if_pos (show nj 5 = 5 from rfl)]
  have hk : mI p 256 a = nj 36 ∨ mI p 256 a = nj 37 := by
    rcases hs with e | e
    · subst e; exact Or.inl h256
    · subst e; exact Or.inr h256
  unfold BOut
  rw [eR]
  rcases load_j (a := a) (i := i) h ht hi hk ha p7 ⟨p9, p13⟩ p11 p5 r5 with ⟨v, nm1, q1, q2, t1, L, p', r', t', nm', l', c', ca, k, nt, d1, d2, d3, d4, d5, d6, d7, d8, d9, d10, d11, d12, d13, d14, d15, d16, d17, d18, d19⟩ | ⟨p', r', d1, d2, d3⟩
  · left
    obtain ⟨m1, m2, m3, m4, m5, m6, m7, m8, m9, m10, m11, m12, m13, m14, m15, m16⟩ := d3
    rw [d2, bn_s]
    exact ⟨p', r', t', nm', l', c', mC p, ca, d1, rfl, m1, d4, m3, by omega, d4.2.2.2.2.2.1, ⟨la, m9.2⟩, ⟨by omega, by rw [d19 15 i (by omega) (by omega) (by omega) (by omega) (by omega) (by omega)]; exact r1, h51, by rw [d18 a la]; exact ha, by rw [d17 256 (by omega) (by omega) (by omega) (by omega) (by omega)]; exact h256, d15, m8, h.T.1, m9.1, d16.1, m10.1, d12, m3, m1.c2⟩, fun _ => ⟨v, by omega, d6, d8, d9⟩, (fun q => by omega), (fun q => by omega), fun _ => by rw [d17 260 (by omega) (by omega) (by omega) (by omega) (by omega)]; exact p3, fun _ => ⟨c, L, d10, d11, m4, d13, d14, d16⟩, (fun q => by omega), ⟨m5, m16, m7⟩, fun _ => ⟨nt, m6, m10⟩, fun _ => ⟨k, m12⟩, (fun q => by omega), (fun q => by omega)⟩
  · right
    obtain ⟨r'', g1, g2⟩ := d3.go (F := fun m => R_tellItem_501 (nj i) m) h.p82 (fun d q hq _ => e501_f hq hi)
    rw [d2, bn_s]
    exact ⟨p', r'', d1, g1, g2⟩
/-- the body of an ITEM of any kind -/
theorem body_j {s : Nat} (h : Pi N kd pl x p r t nm l c) (ht : 4 ≤ t) (hi : i < 750) (h51 : 51 ≤ a) (hs : s ≤ 8) (h256 : mI p 256 a = nj (s + 32)) (ha : mT p a = 3) (hp : FrP a s0 c0 p) (hr : FrR i s l c r) : BOut N kd pl x a i l c s p r t nm := by
  rcases (show s = 0 ∨ s = 1 ∨ s = 2 ∨ s = 3 ∨ s = 4 ∨ s = 5 ∨ s = 6 ∨ s = 7 ∨ s = 8 by omega) with e | e | e | e | e | e | e | e | e <;> subst e
  · exact body0 h ht hi h51 h256 ha hp hr
  · exact bodyN h hi h51 (Or.inl rfl) h256 ha hp hr
  · exact body2 h ht hi h51 h256 ha hp hr
  · exact body3 h hi h51 h256 ha hp hr
  · exact bodyL h ht hi h51 (Or.inl rfl) h256 ha hp hr
  · exact bodyL h ht hi h51 (Or.inr rfl) h256 ha hp hr
  · exact body6 h hi h51 h256 ha hp hr
  · exact bodyN h hi h51 (Or.inr rfl) h256 ha hp hr
  · exact body8 h ht hi h51 h256 ha hp hr
end Bo
