/-! Layer D: what both constructors leave -/
def mZ : Mem := (fun _ => 0, fun _ => 0, fun _ _ => 0, fun _ _ => 0, fun _ _ => none, fun _ _ => 0, fun _ _ => 0, fun _ _ => none, 0, 0)
def Ok {β : Type} (Q : Mem → Prop) (x : Option (β × Mem)) : Prop := ∀ r m', x = some (r, m') → Q m'
section Okk
variable {β γ ρ : Type} {Q Z : Mem → Prop}
theorem ok_gd {b : Bool} {k : Option (β × Mem)} (h : Ok Q k) : Ok Q (gd b k) := fun r m' e => h r m' (gd_some e).2
theorem ok_gt {m : Mem} {a t : Nat} {k : Option (β × Mem)} (h : Ok Q k) : Ok Q (gt m a t k) := fun r m' e => h r m' (gt_some e).2
theorem ok_gs {o : Option Nat} {k : Nat → Option (β × Mem)} (h : ∀ a, Ok Q (k a)) : Ok Q (gs o k) := fun r m' e => by
  obtain ⟨a, -, e⟩ := gs_some e
  exact h a r m' e
theorem ok_bp {o : Option ρ} {k : ρ → Option (β × Mem)} (h : ∀ a, Ok Q (k a)) : Ok Q (bp o k) := fun r m' e => by
  obtain ⟨a, -, e⟩ := bp_some e
  exact h a r m' e
theorem ok_vb {x : γ} {k : γ → Option (β × Mem)} (h : Ok Q (k x)) : Ok Q (vb x k) := h
theorem ok_vbz {x : Mem} {k : Mem → Option (β × Mem)} (z : Z x) (h : ∀ y, Z y → Ok Q (k y)) : Ok Q (vb x k) := h x z
theorem ok_bnz {x : Option (ρ × Mem)} {k : ρ → Mem → Option (β × Mem)} (z : Ok Z x) (h : ∀ r y, Z y → Ok Q (k r y)) : Ok Q (bn x k) := fun r m' e => by
  obtain ⟨y, m1, e1, e⟩ := bn_some e
  exact h y m1 (z _ _ e1) r m' e
theorem ok_ret {r : β} {m : Mem} (h : Q m) : Ok Q (some (r, m)) := fun r' m' e => by cases e; exact h
end Okk
/-- while the class's objects are made: how many, int arrays below 13 but for weights, no array holds a reference -/
def Zw (c : Nat) (m : Mem) : Prop := mC m = c ∧ (∀ a j, a < 13 → (a ≠ 12 ∨ 4 ≤ j) → aI m a j = 0) ∧ aR m = (fun _ _ => none) ∧ ∀ a, c ≤ a → mT m a = 0
section Zww
variable {c : Nat} {m : Mem}
theorem zA_0 {β : Type} {t a b j : Nat} {g : Nat → Nat → β} {v : β} (h : g b j = v) : zA t g a v b j = v := by
  unfold zA
  split
  · exact h
  · show up1 g a (fun _ => v) b j = v
    unfold up1
    split
    · rfl
    · exact h
theorem Zw.nw {t n z : Nat} (h : Zw c m) : Zw (c + 1) (nw m t n z) := by
  obtain ⟨h1, h2, h3, h4⟩ := h
  refine ⟨congrArg (· + 1) h1, fun a j ha hj => zA_0 (h2 a j ha hj), ?_, fun a ha => ?_⟩
  · funext b j
    exact zA_0 (by rw [h3])
  · show up1 (mT m) (mC m) t a = 0
    rw [up1_ne (by omega)]
    exact h4 a (by omega)
theorem Zw.sR {f a : Nat} {v : Option Nat} (h : Zw c m) : Zw c (sR m f a v) := h
theorem Zw.sI {f a : Nat} {v : Int32} (h : Zw c m) : Zw c (sI m f a v) := h
theorem Zw.wL {a j : Nat} {v : Int64} (h : Zw c m) : Zw c (wL m a j v) := h
theorem zk_fill_5 {w : Nat} {x1 x3 : Int32} : ∀ (n : Nat) (x2 : Int32) (m : Mem), Zw c m → (w ≠ 12 ∨ mN m w ≤ 4) → 12 ≤ w → Ok (Zw c) (J_fill_5 n (some w) x1 x2 x3 m)
  | 0, x2, m, _, _, _ => fun r m' e => by cases e
  | n + 1, x2, m, h, hw, h12 => by
    rw [J_fill_5.eq_2]
    split
    · exact ok_ret h
    · show Ok (Zw c) (gt m w 32 <| gd (inb x2 (mN m w)) <| vb (wI m w (ix x2) x1) fun m5 => vb (x2 + 1 : Int32) fun v7 => J_fill_5 n (some w) x1 v7 x3 m5)
      refine ok_gt fun r m' e => ?_
      obtain ⟨g, e⟩ := gd_some e
      have g1 : ix x2 < mN m w := (inb_of g).2
      refine zk_fill_5 n (x2 + 1) (wI m w (ix x2) x1) ⟨h.1, fun a j ha hj => ?_, h.2.2⟩ hw h12 r m' e
      show up2 (aI m) w (ix x2) x1 a j = 0
      rw [up2_ne (by omega)]
      exact h.2.1 a j ha hj
theorem zk_fill {w : Nat} {x1 : Int32} (h : Zw c m) (hw : w ≠ 12 ∨ mN m w ≤ 4) (h12 : 12 ≤ w) : Ok (Zw c) (J_fill (some w) x1 m) := by
  show Ok (Zw c) (gt m w 32 <| vb (Int32.ofNat (mN m w) : Int32) fun v3 => J_fill_5 FU (some w) x1 0 v3 m)
  exact ok_gt (ok_vb (zk_fill_5 FU 0 m h hw h12))
theorem zk_learn_5 {a0 j : Nat} : ∀ (n : Nat) (x3 x4 : Int32) (m : Mem), Zw c m → Ok (Zw c) (P_Lexer_learn_5 n a0 j x3 x4 m)
  | 0, x3, x4, m, _ => fun r m' e => by cases e
  | n + 1, x3, x4, m, h => by
    rw [P_Lexer_learn_5.eq_2]
    split
    · exact ok_ret h
    · refine ok_gs fun w => ok_gt ?_
      split
      · exact ok_ret h
      · refine ok_gd ?_
        split
        · exact zk_learn_5 n _ _ m h
        · exact ok_gd (ok_bp fun r => ok_vb (zk_learn_5 n _ _ _ h.wL))
theorem zk_P_Lexer_learn {a0 j : Nat} {x2 : Int32} (h : Zw c m) : Ok (Zw c) (P_Lexer_learn a0 j x2 m) := ok_gd (zk_learn_5 _ _ _ _ h)
end Zww
section Zwk
variable {c a0 : Nat} {m : Mem}
set_option maxRecDepth 100000 in
theorem zk_P_Formula_init (z : Zw c m) : Ok (Zw (c + 3)) (P_Formula_init a0 m) := by
  unfold P_Formula_init
  refine ok_gd ?_
  refine ok_vbz (z.nw) fun m2 z2 => ?_
  refine ok_gt ?_
  refine ok_vbz (z2.sR) fun m6 z6 => ?_
  refine ok_gd ?_
  refine ok_vbz (z6.nw) fun m10 z10 => ?_
  refine ok_gt ?_
  refine ok_vbz (z10.sR) fun m15 z15 => ?_
  refine ok_gd ?_
  refine ok_vbz (z15.nw) fun m19 z19 => ?_
  refine ok_gt ?_
  refine ok_vbz (z19.sR) fun m24 z24 => ?_
  exact ok_ret z24
set_option maxRecDepth 100000 in
theorem zk_P_Ledger_init (z : Zw c m) : Ok (Zw (c + 2)) (P_Ledger_init a0 m) := by
  unfold P_Ledger_init
  refine ok_gd ?_
  refine ok_vbz (z.nw) fun m2 z2 => ?_
  refine ok_gt ?_
  refine ok_vbz (z2.sR) fun m6 z6 => ?_
  refine ok_gd ?_
  refine ok_vbz (z6.nw) fun m10 z10 => ?_
  refine ok_gt ?_
  refine ok_vbz (z10.sR) fun m15 z15 => ?_
  exact ok_ret z15
set_option maxRecDepth 100000 in
theorem zk_P_Lexer_init (z : Zw c m) : Ok (Zw (c + 5)) (P_Lexer_init a0 m) := by
  unfold P_Lexer_init
  refine ok_gd ?_
  refine ok_vbz (z.nw) fun m2 z2 => ?_
  refine ok_gt ?_
  refine ok_vbz (z2.sR) fun m6 z6 => ?_
  refine ok_gd ?_
  refine ok_vbz (z6.nw) fun m10 z10 => ?_
  refine ok_gt ?_
  refine ok_vbz (z10.sR) fun m15 z15 => ?_
  refine ok_gd ?_
  refine ok_vbz (z15.nw) fun m19 z19 => ?_
  refine ok_gt ?_
  refine ok_vbz (z19.sR) fun m24 z24 => ?_
  refine ok_gd ?_
  refine ok_vbz (z24.nw) fun m28 z28 => ?_
  refine ok_gt ?_
  refine ok_vbz (z28.sR) fun m33 z33 => ?_
  refine ok_gd ?_
  refine ok_vbz (z33.nw) fun m37 z37 => ?_
  refine ok_gt ?_
  refine ok_vbz (z37.sR) fun m42 z42 => ?_
  refine ok_bnz (zk_P_Lexer_learn z42) fun _ m46 z46 => ?_
  refine ok_gt ?_
  refine ok_bnz (zk_P_Lexer_learn z46) fun _ m50 z50 => ?_
  refine ok_gt ?_
  refine ok_bnz (zk_P_Lexer_learn z50) fun _ m54 z54 => ?_
  refine ok_gt ?_
  refine ok_bnz (zk_P_Lexer_learn z54) fun _ m58 z58 => ?_
  exact ok_ret z58
set_option maxRecDepth 100000 in
theorem zk_P_Parser_init {x1 x2 x3 : Option Nat} (z : Zw c m) : Ok (Zw (c + 2)) (P_Parser_init a0 x1 x2 x3 m) := by
  unfold P_Parser_init
  refine ok_gd ?_
  refine ok_vbz (z.nw) fun m2 z2 => ?_
  refine ok_gt ?_
  refine ok_vbz (z2.sR) fun m6 z6 => ?_
  refine ok_vbz (z6.sI) fun m9 z9 => ?_
  refine ok_gd ?_
  refine ok_vbz (z9.nw) fun m13 z13 => ?_
  refine ok_gt ?_
  refine ok_vbz (z13.sR) fun m18 z18 => ?_
  refine ok_vbz (z18.sR) fun m21 z21 => ?_
  refine ok_vbz (z21.sR) fun m24 z24 => ?_
  refine ok_vbz (z24.sR) fun m27 z27 => ?_
  exact ok_ret z27
set_option maxRecDepth 100000 in
theorem zk_P_Scene_init {x1 x2 x3 : Option Nat} (z : Zw c m) : Ok (Zw (c + 2)) (P_Scene_init a0 x1 x2 x3 m) := by
  unfold P_Scene_init
  refine ok_gd ?_
  refine ok_vbz (z.nw) fun m2 z2 => ?_
  refine ok_gt ?_
  refine ok_vbz (z2.sR) fun m6 z6 => ?_
  refine ok_gd ?_
  refine ok_vbz (z6.nw) fun m10 z10 => ?_
  refine ok_gt ?_
  refine ok_vbz (z10.sR) fun m15 z15 => ?_
  refine ok_vbz (z15.sI) fun m18 z18 => ?_
  refine ok_vbz (z18.sR) fun m21 z21 => ?_
  refine ok_vbz (z21.sR) fun m24 z24 => ?_
  refine ok_vbz (z24.sR) fun m27 z27 => ?_
  exact ok_ret z27
set_option maxRecDepth 100000 in
theorem zk_P_Reckoning_init {x1 x2 : Option Nat} (z : Zw c m) : Ok (Zw (c + 12)) (P_Reckoning_init a0 x1 x2 m) := by
  unfold P_Reckoning_init
  refine ok_gd ?_
  refine ok_vbz (z.nw) fun m2 z2 => ?_
  refine ok_gt ?_
  refine ok_vbz (z2.sR) fun m6 z6 => ?_
  refine ok_gd ?_
  refine ok_vbz (z6.nw) fun m10 z10 => ?_
  refine ok_gt ?_
  refine ok_vbz (z10.sR) fun m15 z15 => ?_
  refine ok_gd ?_
  refine ok_vbz (z15.nw) fun m19 z19 => ?_
  refine ok_gt ?_
  refine ok_vbz (z19.sR) fun m24 z24 => ?_
  refine ok_gd ?_
  refine ok_vbz (z24.nw) fun m28 z28 => ?_
  refine ok_gt ?_
  refine ok_vbz (z28.sR) fun m33 z33 => ?_
  refine ok_gd ?_
  refine ok_vbz (z33.nw) fun m37 z37 => ?_
  refine ok_gt ?_
  refine ok_vbz (z37.sR) fun m42 z42 => ?_
  refine ok_gd ?_
  refine ok_vbz (z42.nw) fun m46 z46 => ?_
  refine ok_gt ?_
  refine ok_vbz (z46.sR) fun m51 z51 => ?_
  refine ok_gd ?_
  refine ok_vbz (z51.nw) fun m55 z55 => ?_
  refine ok_gt ?_
  refine ok_vbz (z55.sR) fun m60 z60 => ?_
  refine ok_gd ?_
  refine ok_vbz (z60.nw) fun m64 z64 => ?_
  refine ok_gt ?_
  refine ok_vbz (z64.sR) fun m69 z69 => ?_
  refine ok_gd ?_
  refine ok_vbz (z69.nw) fun m73 z73 => ?_
  refine ok_gt ?_
  refine ok_vbz (z73.sR) fun m78 z78 => ?_
  refine ok_gd ?_
  refine ok_vbz (z78.nw) fun m82 z82 => ?_
  refine ok_gt ?_
  refine ok_vbz (z82.sR) fun m87 z87 => ?_
  refine ok_gd ?_
  refine ok_vbz (z87.nw) fun m91 z91 => ?_
  refine ok_gt ?_
  refine ok_vbz (z91.sR) fun m96 z96 => ?_
  refine ok_gd ?_
  refine ok_vbz (z96.nw) fun m100 z100 => ?_
  refine ok_gt ?_
  refine ok_vbz (z100.sR) fun m105 z105 => ?_
  refine ok_vbz (z105.sR) fun m108 z108 => ?_
  refine ok_vbz (z108.sR) fun m111 z111 => ?_
  exact ok_ret z111
set_option maxRecDepth 100000 in
theorem zk_P_Land_init (z : Zw 6 m) : Ok (Zw 13) (P_Land_init a0 m) := by
  unfold P_Land_init
  refine ok_gd ?_
  refine ok_vbz (z.nw) fun m2 z2 => ?_
  refine ok_gt ?_
  refine ok_vbz (z2.sR) fun m6 z6 => ?_
  refine ok_gd ?_
  refine ok_vbz (z6.nw) fun m10 z10 => ?_
  refine ok_gt ?_
  refine ok_vbz (z10.sR) fun m15 z15 => ?_
  refine ok_gd ?_
  refine ok_vbz (z15.nw) fun m19 z19 => ?_
  refine ok_gt ?_
  refine ok_vbz (z19.sR) fun m24 z24 => ?_
  refine ok_gd ?_
  refine ok_vbz (z24.nw) fun m28 z28 => ?_
  refine ok_gt ?_
  refine ok_vbz (z28.sR) fun m33 z33 => ?_
  refine ok_gd ?_
  refine ok_vbz (z33.nw) fun m37 z37 => ?_
  refine ok_gt ?_
  refine ok_vbz (z37.sR) fun m42 z42 => ?_
  refine ok_gd ?_
  refine ok_vbz (z42.nw) fun m46 z46 => ?_
  refine ok_gt ?_
  refine ok_vbz (z46.sR) fun m51 z51 => ?_
  refine ok_gd ?_
  have z60 : Zw 13 (sR (nw m51 32 (ix 4) (ix 4)) 393 a0 (some (mC m51))) := z51.nw.sR
  refine ok_vb (ok_gt (ok_vb ?_))
  have e1 : mR (sR (nw m51 32 (ix 4) (ix 4)) 393 a0 (some (mC m51))) 393 a0 = some 12 := by
    rw [k_mR_sR_e, up1_eq, z51.1]
  rw [e1]
  refine ok_bnz (zk_fill z60 (Or.inr ?_) (by decide)) fun _ m64 z64 => ok_ret z64
  show up1 (mN m51) (mC m51) (ix 4) 12 ≤ 4
  rw [z51.1, up1_eq]
  decide
set_option maxRecDepth 100000 in
theorem zk_P_Parting_init (hc : 13 ≤ c) (z : Zw c m) : Ok (Zw (c + 9)) (P_Parting_init a0 m) := by
  unfold P_Parting_init
  refine ok_gd ?_
  refine ok_vbz (z.nw) fun m2 z2 => ?_
  refine ok_gt ?_
  refine ok_vbz (z2.sR) fun m6 z6 => ?_
  refine ok_gd ?_
  refine ok_vbz (z6.nw) fun m10 z10 => ?_
  refine ok_gt ?_
  refine ok_vbz (z10.sR) fun m15 z15 => ?_
  refine ok_gd ?_
  refine ok_vbz (z15.nw) fun m19 z19 => ?_
  refine ok_gt ?_
  obtain ⟨wv, hwv⟩ : ∃ wv, wv = mC m15 := ⟨_, rfl⟩
  have hwc := z15.1
  refine ok_vbz (Z := fun y => Zw (c + 3) y ∧ mR y 898 a0 = some wv) ⟨z19.sR, by rw [k_mR_sR_e, up1_eq, hwv]⟩ fun m24 y24 => ?_
  have z24 := y24.1
  refine ok_gd ?_
  refine ok_vbz (Z := fun y => Zw (c + 4) y ∧ mR y 898 a0 = some wv) ⟨z24.nw, (show mR (nw m24 32 (ix 16) (ix 16)) 898 a0 = some wv from y24.2)⟩ fun m28 y28 => ?_
  have z28 := y28.1
  refine ok_gt ?_
  refine ok_vbz (Z := fun y => Zw (c + 4) y ∧ mR y 898 a0 = some wv) ⟨z28.sR, (show up2 (mR m28) 899 a0 (some (mC m24)) 898 a0 = some wv from (up2_ne (by omega)).trans y28.2)⟩ fun m33 y33 => ?_
  have z33 := y33.1
  refine ok_gd ?_
  refine ok_vbz (Z := fun y => Zw (c + 5) y ∧ mR y 898 a0 = some wv) ⟨z33.nw, (show mR (nw m33 32 (ix 7) (ix 7)) 898 a0 = some wv from y33.2)⟩ fun m37 y37 => ?_
  have z37 := y37.1
  refine ok_gt ?_
  refine ok_vbz (Z := fun y => Zw (c + 5) y ∧ mR y 898 a0 = some wv) ⟨z37.sR, (show up2 (mR m37) 900 a0 (some (mC m33)) 898 a0 = some wv from (up2_ne (by omega)).trans y37.2)⟩ fun m42 y42 => ?_
  have z42 := y42.1
  refine ok_gd ?_
  refine ok_vbz (Z := fun y => Zw (c + 6) y ∧ mR y 898 a0 = some wv) ⟨z42.nw, (show mR (nw m42 32 (ix 7) (ix 7)) 898 a0 = some wv from y42.2)⟩ fun m46 y46 => ?_
  have z46 := y46.1
  refine ok_gt ?_
  refine ok_vbz (Z := fun y => Zw (c + 6) y ∧ mR y 898 a0 = some wv) ⟨z46.sR, (show up2 (mR m46) 902 a0 (some (mC m42)) 898 a0 = some wv from (up2_ne (by omega)).trans y46.2)⟩ fun m51 y51 => ?_
  have z51 := y51.1
  refine ok_gd ?_
  refine ok_vbz (Z := fun y => Zw (c + 7) y ∧ mR y 898 a0 = some wv) ⟨z51.nw, (show mR (nw m51 32 (ix 7) (ix 7)) 898 a0 = some wv from y51.2)⟩ fun m55 y55 => ?_
  have z55 := y55.1
  refine ok_gt ?_
  refine ok_vbz (Z := fun y => Zw (c + 7) y ∧ mR y 898 a0 = some wv) ⟨z55.sR, (show up2 (mR m55) 903 a0 (some (mC m51)) 898 a0 = some wv from (up2_ne (by omega)).trans y55.2)⟩ fun m60 y60 => ?_
  have z60 := y60.1
  refine ok_gd ?_
  refine ok_vbz (Z := fun y => Zw (c + 8) y ∧ mR y 898 a0 = some wv) ⟨z60.nw, (show mR (nw m60 32 (ix 7) (ix 7)) 898 a0 = some wv from y60.2)⟩ fun m64 y64 => ?_
  have z64 := y64.1
  refine ok_gt ?_
  refine ok_vbz (Z := fun y => Zw (c + 8) y ∧ mR y 898 a0 = some wv) ⟨z64.sR, (show up2 (mR m64) 904 a0 (some (mC m60)) 898 a0 = some wv from (up2_ne (by omega)).trans y64.2)⟩ fun m69 y69 => ?_
  have z69 := y69.1
  refine ok_gd ?_
  refine ok_vbz (Z := fun y => Zw (c + 9) y ∧ mR y 898 a0 = some wv) ⟨z69.nw, (show mR (nw m69 32 (ix 7) (ix 7)) 898 a0 = some wv from y69.2)⟩ fun m73 y73 => ?_
  have z73 := y73.1
  refine ok_gt ?_
  refine ok_vbz (Z := fun y => Zw (c + 9) y ∧ mR y 898 a0 = some wv) ⟨z73.sR, (show up2 (mR m73) 905 a0 (some (mC m69)) 898 a0 = some wv from (up2_ne (by omega)).trans y73.2)⟩ fun m78 y78 => ?_
  have z78 := y78.1
  rw [y78.2]
  refine ok_bnz (zk_fill z78 (Or.inl ?_) ?_) fun _ m82 z82 => ok_ret z82
  all_goals omega
set_option maxRecDepth 100000 in
theorem zk_P_init (z : Zw 1 m) : Ok (Zw 51) (P_init a0 m) := by
  unfold P_init
  refine ok_vbz (z.sI) fun m1 z1 => ?_
  refine ok_vbz (z1.nw) fun m3 z3 => ?_
  refine ok_bnz (zk_P_Formula_init z3) fun _ m7 z7 => ?_
  refine ok_vbz (z7.nw) fun m9 z9 => ?_
  refine ok_bnz (zk_P_Land_init z9) fun _ m12 z12 => ?_
  refine ok_gt ?_
  refine ok_vbz (z12.sR) fun m15 z15 => ?_
  refine ok_vbz (z15.nw) fun m17 z17 => ?_
  refine ok_bnz (zk_P_Ledger_init z17) fun _ m21 z21 => ?_
  refine ok_gt ?_
  refine ok_vbz (z21.sR) fun m24 z24 => ?_
  refine ok_vbz (z24.nw) fun m26 z26 => ?_
  refine ok_bnz (zk_P_Lexer_init z26) fun _ m30 z30 => ?_
  refine ok_gt ?_
  refine ok_vbz (z30.sR) fun m33 z33 => ?_
  refine ok_vbz (z33.nw) fun m35 z35 => ?_
  refine ok_gt ?_
  refine ok_bnz (zk_P_Parser_init z35) fun _ m40 z40 => ?_
  refine ok_gt ?_
  refine ok_vbz (z40.sR) fun m43 z43 => ?_
  refine ok_vbz (z43.nw) fun m45 z45 => ?_
  refine ok_gt ?_
  refine ok_bnz (zk_P_Scene_init z45) fun _ m50 z50 => ?_
  refine ok_gt ?_
  refine ok_vbz (z50.sR) fun m53 z53 => ?_
  refine ok_vbz (z53.nw) fun m55 z55 => ?_
  refine ok_gt ?_
  refine ok_bnz (zk_P_Reckoning_init z55) fun _ m60 z60 => ?_
  refine ok_gt ?_
  refine ok_vbz (z60.sR) fun m63 z63 => ?_
  refine ok_vbz (z63.nw) fun m65 z65 => ?_
  refine ok_bnz (zk_P_Parting_init (by decide) z65) fun _ m69 z69 => ?_
  refine ok_gt ?_
  refine ok_vbz (z69.sR) fun m72 z72 => ?_
  exact ok_ret z72
end Zwk
/-- while the reference's arrays are made -/
def Zr (m : Mem) : Prop := ∀ a j, aI m a j = 0
theorem Zr.nw {m : Mem} {t n z : Nat} (h : Zr m) : Zr (nw m t n z) := fun a j => zA_0 (h a j)
theorem Zr.sR {m : Mem} {f a : Nat} {v : Option Nat} (h : Zr m) : Zr (sR m f a v) := h
theorem Zr.sI {m : Mem} {f a : Nat} {v : Int32} (h : Zr m) : Zr (sI m f a v) := h
theorem Zr.wL {m : Mem} {a j : Nat} {v : Int64} (h : Zr m) : Zr (wL m a j v) := h
theorem rk_67k {a0 : Nat} : ∀ (n : Nat) (x1 : Int32) (m m' : Mem) (r : Unit), R_init_1567 n a0 x1 m = some (r, m') → mR m' = mR m
  | 0, x1, m, m', r, e => by cases e
  | n + 1, x1, m, m', r, e => by
    rw [R_init_1567.eq_2] at e
    rcases ite_some e with ⟨c, e⟩ | ⟨c, e⟩
    · cases e
      rfl
    · obtain ⟨a2, e2, e⟩ := gs_some e
      obtain ⟨-, e⟩ := gt_some e
      obtain ⟨g, e⟩ := gd_some e
      exact (rk_67k n _ (wI m a2 (ix x1) 1) _ _ e).trans rfl
theorem rk_67 {a0 w : Nat} : ∀ (n : Nat) (x1 : Int32) (m m' : Mem) (r : Unit), 0 ≤ x1 → (∀ a j, (a ≠ w ∨ 4 ≤ j) → aI m a j = 0) → R_init_1567 n a0 x1 m = some (r, m') → mR m' 1600 a0 = some w → mR m' = mR m ∧ ∀ a j, (a ≠ w ∨ 4 ≤ j) → aI m' a j = 0
  | 0, x1, m, m', r, _, _, e, _ => by cases e
  | n + 1, x1, m, m', r, h0, h, e, hw => by
    rw [R_init_1567.eq_2] at e
    rcases ite_some e with ⟨c, e⟩ | ⟨c, e⟩
    · cases e
      exact ⟨rfl, h⟩
    · obtain ⟨a2, e2, e⟩ := gs_some e
      obtain ⟨-, e⟩ := gt_some e
      obtain ⟨g, e⟩ := gd_some e
      have e : R_init_1567 n a0 (x1 + 1) (wI m a2 (ix x1) 1) = some (r, m') := e
      have hk0 := rk_67k n _ _ _ _ e
      have hk : mR m' = mR m := hk0
      have : a2 = w := by
        rw [hk, e2] at hw
        exact Option.some.inj hw
      subst this
      obtain ⟨k, hk4, rfl⟩ := nj_of h0
      have k4 : k < 4 := by
        have c4 : ¬ nj 4 ≤ nj k := c
        rw [nj_le (by omega) (by omega)] at c4
        omega
      have hx : nj k + 1 = nj (k + 1) := nj_add_l k 1
      refine rk_67 n (nj k + 1) (wI m a2 (ix (nj k)) 1) m' r (by rw [hx]; exact nj_0le (by omega)) (fun a j ha => ?_) e hw
      show up2 (aI m) a2 (ix (nj k)) 1 a j = 0
      rw [ix_nj (by omega), up2_ne (by omega)]
      exact h a j ha
set_option maxRecDepth 100000 in
set_option maxHeartbeats 4000000 in
theorem rk_R_init {a0 w : Nat} {m : Mem} (z : Zr m) : Ok (fun m' => mR m' 1600 a0 = some w → ∀ a j, (a ≠ w ∨ 4 ≤ j) → aI m' a j = 0) (R_init a0 m) := by
  unfold R_init
  refine ok_gd ?_
  refine ok_vbz (z.nw) fun m2 z2 => ?_
  refine ok_gt ?_
  refine ok_vbz (z2.sR) fun m6 z6 => ?_
  refine ok_gd ?_
  refine ok_vbz (z6.nw) fun m10 z10 => ?_
  refine ok_gt ?_
  refine ok_vbz (z10.sR) fun m15 z15 => ?_
  refine ok_gd ?_
  refine ok_vbz (z15.nw) fun m19 z19 => ?_
  refine ok_gt ?_
  refine ok_vbz (z19.sR) fun m24 z24 => ?_
  refine ok_gd ?_
  refine ok_vbz (z24.nw) fun m28 z28 => ?_
  refine ok_gt ?_
  refine ok_vbz (z28.sR) fun m33 z33 => ?_
  refine ok_gd ?_
  refine ok_vbz (z33.nw) fun m37 z37 => ?_
  refine ok_gt ?_
  refine ok_vbz (z37.sR) fun m42 z42 => ?_
  refine ok_gd ?_
  refine ok_vbz (z42.nw) fun m46 z46 => ?_
  refine ok_gt ?_
  refine ok_vbz (z46.sR) fun m51 z51 => ?_
  refine ok_gd ?_
  refine ok_vbz (z51.nw) fun m55 z55 => ?_
  refine ok_gt ?_
  refine ok_vbz (z55.sR) fun m60 z60 => ?_
  refine ok_vbz (z60.sI) fun m63 z63 => ?_
  refine ok_gd ?_
  refine ok_vbz (z63.nw) fun m67 z67 => ?_
  refine ok_gt ?_
  refine ok_vbz (z67.sR) fun m72 z72 => ?_
  refine ok_gd ?_
  refine ok_vbz (z72.nw) fun m76 z76 => ?_
  refine ok_gt ?_
  refine ok_vbz (z76.sR) fun m81 z81 => ?_
  refine ok_gd ?_
  refine ok_vbz (z81.nw) fun m85 z85 => ?_
  refine ok_gt ?_
  refine ok_vbz (z85.sR) fun m90 z90 => ?_
  refine ok_gd ?_
  refine ok_vbz (z90.nw) fun m94 z94 => ?_
  refine ok_gt ?_
  refine ok_vbz (z94.sR) fun m99 z99 => ?_
  refine ok_gd ?_
  refine ok_vbz (z99.nw) fun m103 z103 => ?_
  refine ok_gt ?_
  refine ok_vbz (z103.sR) fun m108 z108 => ?_
  refine ok_gd ?_
  refine ok_vbz (z108.nw) fun m112 z112 => ?_
  refine ok_gt ?_
  refine ok_vbz (z112.sR) fun m117 z117 => ?_
  refine ok_gd ?_
  refine ok_vbz (z117.nw) fun m121 z121 => ?_
  refine ok_gt ?_
  refine ok_vbz (z121.sR) fun m126 z126 => ?_
  refine ok_gd ?_
  refine ok_vbz (z126.nw) fun m130 z130 => ?_
  refine ok_gt ?_
  refine ok_vbz (z130.sR) fun m135 z135 => ?_
  refine ok_gd ?_
  refine ok_vbz (z135.nw) fun m139 z139 => ?_
  refine ok_gt ?_
  refine ok_vbz (z139.sR) fun m144 z144 => ?_
  refine ok_gd ?_
  refine ok_vbz (z144.nw) fun m148 z148 => ?_
  refine ok_gt ?_
  refine ok_vbz (z148.sR) fun m153 z153 => ?_
  refine ok_gd ?_
  refine ok_vbz (z153.nw) fun m157 z157 => ?_
  refine ok_gt ?_
  refine ok_vbz (z157.sR) fun m162 z162 => ?_
  refine ok_gd ?_
  refine ok_vbz (z162.nw) fun m166 z166 => ?_
  refine ok_gt ?_
  refine ok_vbz (z166.sR) fun m171 z171 => ?_
  refine ok_gd ?_
  refine ok_vbz (z171.nw) fun m175 z175 => ?_
  refine ok_gt ?_
  refine ok_vbz (z175.sR) fun m180 z180 => ?_
  refine ok_gd ?_
  refine ok_vbz (z180.nw) fun m184 z184 => ?_
  refine ok_gt ?_
  refine ok_vbz (z184.sR) fun m189 z189 => ?_
  refine ok_gd ?_
  refine ok_vbz (z189.nw) fun m193 z193 => ?_
  refine ok_gt ?_
  refine ok_vbz (z193.sR) fun m198 z198 => ?_
  refine ok_gd ?_
  refine ok_vbz (z198.nw) fun m202 z202 => ?_
  refine ok_gt ?_
  refine ok_vbz (z202.sR) fun m207 z207 => ?_
  refine ok_gd ?_
  refine ok_vbz (z207.nw) fun m211 z211 => ?_
  refine ok_gt ?_
  refine ok_vbz (z211.sR) fun m216 z216 => ?_
  refine ok_gd ?_
  refine ok_vbz (z216.nw) fun m220 z220 => ?_
  refine ok_gt ?_
  refine ok_vbz (z220.sR) fun m225 z225 => ?_
  refine ok_gd ?_
  refine ok_vbz (z225.nw) fun m229 z229 => ?_
  refine ok_gt ?_
  refine ok_vbz (z229.sR) fun m234 z234 => ?_
  refine ok_gd ?_
  refine ok_vbz (z234.nw) fun m238 z238 => ?_
  refine ok_gt ?_
  refine ok_vbz (z238.sR) fun m243 z243 => ?_
  refine ok_gd ?_
  refine ok_vbz (z243.nw) fun m247 z247 => ?_
  refine ok_gt ?_
  refine ok_vbz (z247.sR) fun m252 z252 => ?_
  refine ok_gd ?_
  refine ok_vbz (z252.nw) fun m256 z256 => ?_
  refine ok_gt ?_
  refine ok_vbz (z256.sR) fun m261 z261 => ?_
  refine ok_gd ?_
  refine ok_vbz (z261.nw) fun m265 z265 => ?_
  refine ok_gt ?_
  refine ok_vbz (z265.sR) fun m270 z270 => ?_
  refine ok_gd ?_
  refine ok_vbz (z270.nw) fun m274 z274 => ?_
  refine ok_gt ?_
  refine ok_vbz (z274.sR) fun m279 z279 => ?_
  refine ok_gd ?_
  refine ok_vbz (z279.nw) fun m283 z283 => ?_
  refine ok_gt ?_
  refine ok_vbz (z283.sR) fun m288 z288 => ?_
  refine ok_gd ?_
  refine ok_vbz (z288.nw) fun m292 z292 => ?_
  refine ok_gt ?_
  refine ok_vbz (z292.sR) fun m297 z297 => ?_
  refine ok_gd ?_
  refine ok_vbz (z297.nw) fun m301 z301 => ?_
  refine ok_gt ?_
  refine ok_vbz (z301.sR) fun m306 z306 => ?_
  refine ok_gd ?_
  refine ok_vbz (z306.nw) fun m310 z310 => ?_
  refine ok_gt ?_
  refine ok_vbz (z310.sR) fun m315 z315 => ?_
  refine ok_gd ?_
  refine ok_vbz (z315.nw) fun m319 z319 => ?_
  refine ok_gt ?_
  refine ok_vbz (z319.sR) fun m324 z324 => ?_
  refine ok_gd ?_
  refine ok_vbz (z324.nw) fun m328 z328 => ?_
  refine ok_gt ?_
  refine ok_vbz (z328.sR) fun m333 z333 => ?_
  refine ok_gd ?_
  refine ok_vbz (z333.nw) fun m337 z337 => ?_
  refine ok_gt ?_
  refine ok_vbz (z337.sR) fun m342 z342 => ?_
  refine ok_gd ?_
  refine ok_vbz (z342.nw) fun m346 z346 => ?_
  refine ok_gt ?_
  refine ok_vbz (z346.sR) fun m351 z351 => ?_
  refine ok_gd ?_
  refine ok_vbz (z351.nw) fun m355 z355 => ?_
  refine ok_gt ?_
  refine ok_vbz (z355.sR) fun m360 z360 => ?_
  refine ok_gd ?_
  refine ok_vbz (z360.nw) fun m364 z364 => ?_
  refine ok_gt ?_
  refine ok_vbz (z364.sR) fun m369 z369 => ?_
  refine ok_gd ?_
  refine ok_vbz (z369.nw) fun m373 z373 => ?_
  refine ok_gt ?_
  refine ok_vbz (z373.sR) fun m378 z378 => ?_
  refine ok_gd ?_
  refine ok_vbz (z378.nw) fun m382 z382 => ?_
  refine ok_gt ?_
  refine ok_vbz (z382.sR) fun m387 z387 => ?_
  refine ok_gd ?_
  refine ok_vbz (z387.nw) fun m391 z391 => ?_
  refine ok_gt ?_
  refine ok_vbz (z391.sR) fun m396 z396 => ?_
  refine ok_gd ?_
  refine ok_vbz (z396.nw) fun m400 z400 => ?_
  refine ok_gt ?_
  refine ok_vbz (z400.sR) fun m405 z405 => ?_
  refine ok_gd ?_
  refine ok_vbz (z405.nw) fun m409 z409 => ?_
  refine ok_gt ?_
  refine ok_vbz (z409.sR) fun m414 z414 => ?_
  refine ok_gd ?_
  refine ok_vbz (z414.nw) fun m418 z418 => ?_
  refine ok_gt ?_
  refine ok_vbz (z418.sR) fun m423 z423 => ?_
  refine ok_gd ?_
  refine ok_vbz (z423.nw) fun m427 z427 => ?_
  refine ok_gt ?_
  refine ok_vbz (z427.sR) fun m432 z432 => ?_
  refine ok_gd ?_
  refine ok_vbz (z432.nw) fun m436 z436 => ?_
  refine ok_gt ?_
  refine ok_vbz (z436.sR) fun m441 z441 => ?_
  refine ok_gd ?_
  refine ok_vbz (z441.nw) fun m445 z445 => ?_
  refine ok_gt ?_
  refine ok_vbz (z445.sR) fun m450 z450 => ?_
  refine ok_gd ?_
  refine ok_vbz (z450.nw) fun m454 z454 => ?_
  refine ok_gt ?_
  refine ok_vbz (z454.sR) fun m459 z459 => ?_
  refine ok_vbz (z459.sI) fun m462 z462 => ?_
  refine ok_gd ?_
  refine ok_vbz (z462.nw) fun m466 z466 => ?_
  refine ok_gt ?_
  refine ok_vbz (z466.sR) fun m471 z471 => ?_
  refine ok_gd ?_
  refine ok_vbz (z471.nw) fun m475 z475 => ?_
  refine ok_gt ?_
  refine ok_vbz (z475.sR) fun m480 z480 => ?_
  refine ok_gd ?_
  refine ok_vbz (z480.nw) fun m484 z484 => ?_
  refine ok_gt ?_
  refine ok_vbz (z484.sR) fun m489 z489 => ?_
  refine ok_gd ?_
  refine ok_vbz (z489.nw) fun m493 z493 => ?_
  refine ok_gt ?_
  refine ok_vbz (z493.sR) fun m498 z498 => ?_
  refine ok_gd ?_
  refine ok_vbz (z498.nw) fun m502 z502 => ?_
  refine ok_gt ?_
  refine ok_vbz (z502.sR) fun m507 z507 => ?_
  refine ok_gd ?_
  refine ok_vbz (z507.nw) fun m511 z511 => ?_
  refine ok_gt ?_
  refine ok_vbz (z511.sR) fun m516 z516 => ?_
  refine ok_gd ?_
  refine ok_vbz (z516.nw) fun m520 z520 => ?_
  refine ok_gt ?_
  refine ok_vbz (z520.sR) fun m525 z525 => ?_
  refine ok_vbz (z525.sI) fun m528 z528 => ?_
  refine ok_gd ?_
  refine ok_vbz (z528.nw) fun m532 z532 => ?_
  refine ok_gt ?_
  refine ok_vbz (z532.sR) fun m537 z537 => ?_
  refine ok_vbz (z537.sI) fun m540 z540 => ?_
  refine ok_gd ?_
  refine ok_vbz (z540.nw) fun m544 z544 => ?_
  refine ok_gt ?_
  refine ok_vbz (z544.sR) fun m549 z549 => ?_
  refine ok_gd ?_
  refine ok_vbz (z549.nw) fun m553 z553 => ?_
  refine ok_gt ?_
  refine ok_vbz (z553.sR) fun m558 z558 => ?_
  refine ok_gd ?_
  refine ok_vbz (z558.nw) fun m562 z562 => ?_
  refine ok_gt ?_
  refine ok_vbz (z562.sR) fun m567 z567 => ?_
  refine ok_gd ?_
  refine ok_vbz (z567.nw) fun m571 z571 => ?_
  refine ok_gt ?_
  refine ok_vbz (z571.sR) fun m576 z576 => ?_
  refine ok_gd ?_
  refine ok_vbz (z576.nw) fun m580 z580 => ?_
  refine ok_gt ?_
  refine ok_vbz (z580.sR) fun m585 z585 => ?_
  refine ok_gd ?_
  refine ok_vbz (z585.nw) fun m589 z589 => ?_
  refine ok_gt ?_
  refine ok_vbz (z589.sR) fun m594 z594 => ?_
  refine ok_gd ?_
  refine ok_vbz (z594.nw) fun m598 z598 => ?_
  refine ok_gt ?_
  refine ok_vbz (z598.sR) fun m603 z603 => ?_
  refine ok_gd ?_
  refine ok_vbz (z603.nw) fun m607 z607 => ?_
  refine ok_gt ?_
  refine ok_vbz (z607.sR) fun m612 z612 => ?_
  refine ok_gd ?_
  refine ok_vbz (z612.nw) fun m616 z616 => ?_
  refine ok_gt ?_
  refine ok_vbz (z616.sR) fun m621 z621 => ?_
  refine ok_gd ?_
  refine ok_vbz (z621.nw) fun m625 z625 => ?_
  refine ok_gt ?_
  refine ok_vbz (z625.sR) fun m630 z630 => ?_
  refine ok_gd ?_
  refine ok_vbz (z630.nw) fun m634 z634 => ?_
  refine ok_gt ?_
  refine ok_vbz (z634.sR) fun m639 z639 => ?_
  refine ok_gd ?_
  refine ok_vbz (z639.nw) fun m643 z643 => ?_
  refine ok_gt ?_
  refine ok_vbz (z643.sR) fun m648 z648 => ?_
  refine ok_gd ?_
  refine ok_vbz (z648.nw) fun m652 z652 => ?_
  refine ok_gt ?_
  refine ok_vbz (z652.sR) fun m657 z657 => ?_
  refine ok_gd ?_
  refine ok_vbz (z657.nw) fun m661 z661 => ?_
  refine ok_gt ?_
  refine ok_vbz (z661.sR) fun m666 z666 => ?_
  refine ok_gd ?_
  refine ok_vbz (z666.nw) fun m670 z670 => ?_
  refine ok_gt ?_
  refine ok_vbz (z670.sR) fun m675 z675 => ?_
  refine ok_gd ?_
  refine ok_vbz (z675.nw) fun m679 z679 => ?_
  refine ok_gt ?_
  refine ok_vbz (z679.sR) fun m684 z684 => ?_
  refine ok_gd ?_
  refine ok_vbz (z684.nw) fun m688 z688 => ?_
  refine ok_gt ?_
  refine ok_vbz (z688.sR) fun m693 z693 => ?_
  refine ok_gd ?_
  refine ok_vbz (z693.nw) fun m697 z697 => ?_
  refine ok_gt ?_
  refine ok_vbz (z697.sR) fun m702 z702 => ?_
  refine ok_gd ?_
  refine ok_vbz (z702.nw) fun m706 z706 => ?_
  refine ok_gt ?_
  refine ok_vbz (z706.sR) fun m711 z711 => ?_
  refine ok_gd ?_
  refine ok_vbz (z711.nw) fun m715 z715 => ?_
  refine ok_gt ?_
  refine ok_vbz (z715.sR) fun m720 z720 => ?_
  refine ok_gd ?_
  refine ok_vbz (z720.nw) fun m724 z724 => ?_
  refine ok_gt ?_
  refine ok_vbz (z724.sR) fun m729 z729 => ?_
  refine ok_gd ?_
  refine ok_vbz (z729.nw) fun m733 z733 => ?_
  refine ok_gt ?_
  refine ok_vbz (z733.sR) fun m738 z738 => ?_
  refine ok_gs fun a741 => ?_
  refine ok_bp fun r743 => ?_
  refine ok_gt ?_
  refine ok_gd ?_
  refine ok_vbz (z738.wL) fun m746 z746 => ?_
  refine ok_gs fun a750 => ?_
  refine ok_bp fun r752 => ?_
  refine ok_gt ?_
  refine ok_gd ?_
  refine ok_vbz (z746.wL) fun m755 z755 => ?_
  refine ok_gs fun a760 => ?_
  refine ok_bp fun r762 => ?_
  refine ok_gt ?_
  refine ok_gd ?_
  refine ok_vbz (z755.wL) fun m765 z765 => ?_
  refine ok_gs fun a771 => ?_
  refine ok_bp fun r773 => ?_
  refine ok_gt ?_
  refine ok_gd ?_
  refine ok_vbz (z765.wL) fun m776 z776 => ?_
  refine ok_gs fun a783 => ?_
  refine ok_bp fun r785 => ?_
  refine ok_gt ?_
  refine ok_gd ?_
  refine ok_vbz (z776.wL) fun m788 z788 => ?_
  refine ok_gs fun a796 => ?_
  refine ok_bp fun r798 => ?_
  refine ok_gt ?_
  refine ok_gd ?_
  refine ok_vbz (z788.wL) fun m801 z801 => ?_
  refine ok_gs fun a810 => ?_
  refine ok_bp fun r812 => ?_
  refine ok_gt ?_
  refine ok_gd ?_
  refine ok_vbz (z801.wL) fun m815 z815 => ?_
  refine ok_gs fun a825 => ?_
  refine ok_bp fun r827 => ?_
  refine ok_gt ?_
  refine ok_gd ?_
  refine ok_vbz (z815.wL) fun m830 z830 => ?_
  refine ok_gs fun a841 => ?_
  refine ok_bp fun r843 => ?_
  refine ok_gt ?_
  refine ok_gd ?_
  refine ok_vbz (z830.wL) fun m846 z846 => ?_
  refine ok_gs fun a858 => ?_
  refine ok_bp fun r860 => ?_
  refine ok_gt ?_
  refine ok_gd ?_
  refine ok_vbz (z846.wL) fun m863 z863 => ?_
  refine ok_gs fun a876 => ?_
  refine ok_bp fun r878 => ?_
  refine ok_gt ?_
  refine ok_gd ?_
  refine ok_vbz (z863.wL) fun m881 z881 => ?_
  refine ok_gs fun a895 => ?_
  refine ok_bp fun r897 => ?_
  refine ok_gt ?_
  refine ok_gd ?_
  refine ok_vbz (z881.wL) fun m900 z900 => ?_
  refine ok_gs fun a915 => ?_
  refine ok_bp fun r917 => ?_
  refine ok_gt ?_
  refine ok_gd ?_
  refine ok_vbz (z900.wL) fun m920 z920 => ?_
  refine ok_gs fun a936 => ?_
  refine ok_bp fun r938 => ?_
  refine ok_gt ?_
  refine ok_gd ?_
  refine ok_vbz (z920.wL) fun m941 z941 => ?_
  refine ok_gs fun a958 => ?_
  refine ok_bp fun r960 => ?_
  refine ok_gt ?_
  refine ok_gd ?_
  refine ok_vbz (z941.wL) fun m963 z963 => ?_
  refine ok_gs fun a981 => ?_
  refine ok_bp fun r983 => ?_
  refine ok_gt ?_
  refine ok_gd ?_
  refine ok_vbz (z963.wL) fun m986 z986 => ?_
  refine ok_gs fun a1005 => ?_
  refine ok_bp fun r1007 => ?_
  refine ok_gt ?_
  refine ok_gd ?_
  refine ok_vbz (z986.wL) fun m1010 z1010 => ?_
  refine ok_gs fun a1030 => ?_
  refine ok_bp fun r1032 => ?_
  refine ok_gt ?_
  refine ok_gd ?_
  refine ok_vbz (z1010.wL) fun m1035 z1035 => ?_
  refine ok_gs fun a1056 => ?_
  refine ok_bp fun r1058 => ?_
  refine ok_gt ?_
  refine ok_gd ?_
  refine ok_vbz (z1035.wL) fun m1061 z1061 => ?_
  refine ok_gs fun a1083 => ?_
  refine ok_bp fun r1085 => ?_
  refine ok_gt ?_
  refine ok_gd ?_
  refine ok_vbz (z1061.wL) fun m1088 z1088 => ?_
  refine ok_gs fun a1111 => ?_
  refine ok_bp fun r1113 => ?_
  refine ok_gt ?_
  refine ok_gd ?_
  refine ok_vbz (z1088.wL) fun m1116 z1116 => ?_
  refine ok_gs fun a1140 => ?_
  refine ok_bp fun r1142 => ?_
  refine ok_gt ?_
  refine ok_gd ?_
  refine ok_vbz (z1116.wL) fun m1145 z1145 => ?_
  refine ok_gs fun a1170 => ?_
  refine ok_bp fun r1172 => ?_
  refine ok_gt ?_
  refine ok_gd ?_
  refine ok_vbz (z1145.wL) fun m1175 z1175 => ?_
  refine ok_gs fun a1201 => ?_
  refine ok_bp fun r1203 => ?_
  refine ok_gt ?_
  refine ok_gd ?_
  refine ok_vbz (z1175.wL) fun m1206 z1206 => ?_
  refine ok_gs fun a1233 => ?_
  refine ok_bp fun r1235 => ?_
  refine ok_gt ?_
  refine ok_gd ?_
  refine ok_vbz (z1206.wL) fun m1238 z1238 => ?_
  refine ok_gs fun a1266 => ?_
  refine ok_bp fun r1268 => ?_
  refine ok_gt ?_
  refine ok_gd ?_
  refine ok_vbz (z1238.wL) fun m1271 z1271 => ?_
  refine ok_gs fun a1300 => ?_
  refine ok_bp fun r1302 => ?_
  refine ok_gt ?_
  refine ok_gd ?_
  refine ok_vbz (z1271.wL) fun m1305 z1305 => ?_
  refine ok_gs fun a1335 => ?_
  refine ok_bp fun r1337 => ?_
  refine ok_gt ?_
  refine ok_gd ?_
  refine ok_vbz (z1305.wL) fun m1340 z1340 => ?_
  refine ok_gs fun a1371 => ?_
  refine ok_bp fun r1373 => ?_
  refine ok_gt ?_
  refine ok_gd ?_
  refine ok_vbz (z1340.wL) fun m1376 z1376 => ?_
  refine ok_gs fun a1408 => ?_
  refine ok_bp fun r1410 => ?_
  refine ok_gt ?_
  refine ok_gd ?_
  refine ok_vbz (z1376.wL) fun m1413 z1413 => ?_
  refine ok_gs fun a1446 => ?_
  refine ok_bp fun r1448 => ?_
  refine ok_gt ?_
  refine ok_gd ?_
  refine ok_vbz (z1413.wL) fun m1451 z1451 => ?_
  refine ok_gs fun a1485 => ?_
  refine ok_bp fun r1487 => ?_
  refine ok_gt ?_
  refine ok_gd ?_
  refine ok_vbz (z1451.wL) fun m1490 z1490 => ?_
  refine ok_gs fun a1525 => ?_
  refine ok_bp fun r1527 => ?_
  refine ok_gt ?_
  refine ok_gd ?_
  refine ok_vbz (z1490.wL) fun m1530 z1530 => ?_
  refine ok_gs fun a1566 => ?_
  refine ok_bp fun r1568 => ?_
  refine ok_gt ?_
  refine ok_gd ?_
  refine ok_vbz (z1530.wL) fun m1571 z1571 => ?_
  refine ok_gs fun a1608 => ?_
  refine ok_bp fun r1610 => ?_
  refine ok_gt ?_
  refine ok_gd ?_
  refine ok_vbz (z1571.wL) fun m1613 z1613 => ?_
  refine ok_gs fun a1651 => ?_
  refine ok_bp fun r1653 => ?_
  refine ok_gt ?_
  refine ok_gd ?_
  refine ok_vbz (z1613.wL) fun m1656 z1656 => ?_
  refine ok_gs fun a1695 => ?_
  refine ok_bp fun r1697 => ?_
  refine ok_gt ?_
  refine ok_gd ?_
  refine ok_vbz (z1656.wL) fun m1700 z1700 => ?_
  refine ok_gs fun a1740 => ?_
  refine ok_bp fun r1742 => ?_
  refine ok_gt ?_
  refine ok_gd ?_
  refine ok_vbz (z1700.wL) fun m1745 z1745 => ?_
  refine ok_gs fun a1786 => ?_
  refine ok_bp fun r1788 => ?_
  refine ok_gt ?_
  refine ok_gd ?_
  refine ok_vbz (z1745.wL) fun m1791 z1791 => ?_
  refine ok_gs fun a1833 => ?_
  refine ok_bp fun r1835 => ?_
  refine ok_gt ?_
  refine ok_gd ?_
  refine ok_vbz (z1791.wL) fun m1838 z1838 => ?_
  exact fun r m1 e hw => (rk_67 FU 0 _ m1 r (by decide) (fun a j _ => z1838 a j) e hw).2
