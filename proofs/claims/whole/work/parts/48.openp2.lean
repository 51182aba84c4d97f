/-! Layer C: the class's open -/
section Or
variable {fa ta ia sa ca : Nat → Nat} {od : List Nat} {p p' : Mem} {D : Dt} {nc k : Nat} {vs : Nat → Int32} {inf : Nat → Bool}
/-- what open leaves -/
def Opened (fa ta ia sa ca : Nat → Nat) (od : List Nat) (D : Dt) (vs : Nat → Int32) (inf : Nat → Bool) (p : Mem) : Prop :=
  (∀ k, k < D.2.1 → mI p 1287 (ta k) = tI (inf k)) ∧ (∀ k, k < D.2.1 → inf k = true → isW D k = true → RowsP ta ia p k ((bS D vs inf od).1 k)) ∧
  ∀ k j, k < D.2.1 → j < ix (D.1 14 k) → inf k = true → (isW D k = true ∨ isV D inf k = true) → mI p 268 (ia (30 * k + j)) = (bS D vs inf od).2 (30 * k + j)
theorem P_open_104_e (W : WText D nc) (Wi : WItems D nc) (hn60 : nc ≤ 60) (hod : ∀ k, k ∈ od → k < D.2.1) : ∀ (e i fu : Nat) (p : Mem), i + e = D.2.1 → e < fu → Lk fa ta ia sa ca od p D → Top p → PL p → (∀ j, j < 12 → aI p 26 j = vs j) → (∀ k, k < D.2.1 → mI p 1287 (ta k) = tI (inf k)) →
    (∀ x k, od[x]? = some k → x < i → inf k = true → isW D k = true → RowsP ta ia p k (stS D vs k ini (ix (D.1 14 k))) ∧ ∀ j, j < ix (D.1 14 k) → mI p 268 (ia (30 * k + j)) = ftS D vs k ini j) →
    ∃ p', P_Scene_open_104 fu (nj i) p = some ((), p') ∧ Opened fa ta ia sa ca od D vs inf p' ∧ Ch [268, 1292, 1293, 1294] [4] (dy2 ta D.2.1) p p' ∧ mC p' = mC p ∧ mS p' = mS p ∧ NWk ta D p p'
  | 0, i, fu + 1, p, hi, _, L, T, hp, hv, hI, hR => by
    have h24 := W.1
    have h14 := h14_of W
    have hall : ∀ k, k < D.2.1 → inf k = true → isW D k = true → RowsP ta ia p k (stS D vs k ini (ix (D.1 14 k))) ∧ ∀ j, j < ix (D.1 14 k) → mI p 268 (ia (30 * k + j)) = ftS D vs k ini j := fun k hk => by
      obtain ⟨x, hx, e⟩ := List.getElem_of_mem ((L.2.2.1.2.2.1 k).mpr hk)
      exact hR x k (by rw [List.getElem?_eq_getElem hx, e]) (by rw [L.2.2.1.1] at hx; omega)
    obtain ⟨p', e1, e2, e3, e4, e5, e6, e7⟩ := P_open_166_e (vs := vs) (inf := inf) W Wi hn60 hod D.2.1 0 FU p (by omega) (by unfold FU; omega) L T hp hv hI (fun k hk hin hw => by
      show RowsP ta ia p k (if (inf k && isW D k) = true then _ else _)
      rw [hin, hw]
      exact (hall k hk hin hw).1) (fun k j hk hj hin h => by
      have h30 := h30_of h14 k hk
      have hw : isW D k = true := by
        rcases h with h | h
        · exact h
        · simp at h
      show _ = if (inf ((30 * k + j) / 30) && isW D ((30 * k + j) / 30)) = true then ftS D vs ((30 * k + j) / 30) ini ((30 * k + j) % 30) else 0
      rw [show (30 * k + j) / 30 = k by omega, show (30 * k + j) % 30 = j by omega, hin, hw]
      exact (hall k hk hin hw).2 j hj)
    refine ⟨p', ?_, ⟨fun k hk => ?_, e2, e3⟩, e4, e5, e6, e7⟩
    · rw [P_Scene_open_104.eq_2, L.2.1.1, if_pos (by rw [nj_le (by omega) (by omega)]; omega)]
      exact e1
    · have lk : ta k < mC p := T.lt (by rw [(L.2.1.2.1 k hk).2.1]; decide)
      rw [e4.i (by decide) lk]; exact hI k hk
  | e + 1, i, fu + 1, p, hi, hf, L, T, hp, hv, hI, hR => by
    have h24 := W.1
    have h14 := h14_of W
    obtain ⟨t, et, ht, ea⟩ := od_get L (show i < D.2.1 by omega)
    have A := L.2.1.2.1 t ht
    have K : ∀ p1, Ch [268, 1292, 1293, 1294] [4] (dy2 ta D.2.1) p p1 → mC p1 = mC p → mS p1 = mS p → NWk ta D p p1 → Lk fa ta ia sa ca od p1 D → Top p1 → PL p1 → (∀ j, j < 12 → aI p1 26 j = vs j) → (∀ k, k < D.2.1 → mI p1 1287 (ta k) = tI (inf k)) →
        (∀ x k, od[x]? = some k → x < i + 1 → inf k = true → isW D k = true → RowsP ta ia p1 k (stS D vs k ini (ix (D.1 14 k))) ∧ ∀ j, j < ix (D.1 14 k) → mI p1 268 (ia (30 * k + j)) = ftS D vs k ini j) →
        ∃ p', P_Scene_open_157 (fun z0 z1 => P_Scene_open_104 fu z0 z1) (nj i) p1 = some ((), p') ∧ Opened fa ta ia sa ca od D vs inf p' ∧ Ch [268, 1292, 1293, 1294] [4] (dy2 ta D.2.1) p p' ∧ mC p' = mC p ∧ mS p' = mS p ∧ NWk ta D p p' := by
      intro p1 c1 c2 c3 c4 L1 T1 hp1 hv1 hI1 hR1
      obtain ⟨p', e1, e2, e4, e5, e6, e7⟩ := P_open_104_e W Wi hn60 hod e (i + 1) fu p1 (by omega) (by omega) L1 T1 hp1 hv1 hI1 hR1
      refine ⟨p', ?_, e2, c1.trans e4, e5.trans c2, e6.trans c3, fun k hk hn => (e7 k hk hn).trans (c4 k hk hn)⟩
      unfold P_Scene_open_157
      rw [vb_e, nj_add_l]
      exact e1
    have KN : (inf t = true → isW D t = true → False) → ∃ p', P_Scene_open_157 (fun z0 z1 => P_Scene_open_104 fu z0 z1) (nj i) p = some ((), p') ∧ Opened fa ta ia sa ca od D vs inf p' ∧ Ch [268, 1292, 1293, 1294] [4] (dy2 ta D.2.1) p p' ∧ mC p' = mC p ∧ mS p' = mS p ∧ NWk ta D p p' := by
      intro hn
      refine K p Ch.rfl rfl rfl (fun _ _ _ => rfl) L T hp hv hI fun x k hx hxi hin hw => ?_
      by_cases c : x = i
      · subst c
        rw [et] at hx
        cases hx
        exact absurd hw (fun h => hn hin h)
      · exact hR x k hx (by omega) hin hw
    rw [P_Scene_open_104.eq_2, L.2.1.1, if_neg (by rw [nj_le (by omega) (by omega)]; omega), inb_nj (by omega), gd_t (decide_eq_true (by omega)), ix_nj (by omega), ea, gs_s, gt_t A.2.1, hI t ht]
    cases hin : inf t with
    | false =>
      rw [if_pos (show tI false = 0 from rfl)]
      exact KN (fun h _ => by rw [hin] at h; cases h)
    | true =>
      rw [if_neg (by decide), P_changes_e L W ht, bn_s]
      cases hw : isW D t with
      | false =>
        rw [if_neg (by decide)]
        exact KN (fun _ h => by rw [hw] at h; cases h)
      | true =>
        have h60 : D.1 8 t = 0 ∨ D.1 8 t = 3 := of_decide_eq_true hw
        rw [if_pos (show tI (!true) = 0 from rfl), gt_t A.2.1]
        have ecl : P_Text_clear (ta t) p = some ((), sI (sI (sI p 1292 (ta t) 0) 1293 (ta t) 51) 1294 (ta t) 1) := rfl
        have C1 : PKeep ta ia D t t p (sI (sI (sI p 1292 (ta t) 0) 1293 (ta t) 51) 1294 (ta t) 1) := by
          refine ⟨((Ch.rfl.sI (by decide)).sI (by decide)).sI (by decide), by simp only [k_mC_sI], by simp only [k_mS_sI], fun x _ hx => ⟨?_, ?_, ?_⟩, fun x _ _ => ?_⟩
          · rw [k_mI_sI (by omega), k_mI_sI (by omega), k_mI_sI_e, up1_ne hx]
          · rw [k_mI_sI (by omega), k_mI_sI_e, up1_ne hx, k_mI_sI (by omega)]
          · rw [k_mI_sI_e, up1_ne hx, k_mI_sI (by omega), k_mI_sI (by omega)]
          · rw [k_mI_sI (by omega), k_mI_sI (by omega), k_mI_sI (by omega)]
        have hR0 : RowsP ta ia (sI (sI (sI p 1292 (ta t) 0) 1293 (ta t) 51) 1294 (ta t) 1) t ini := by
          refine ⟨?_, fun j q hq => absurd hq (by simp [ini]), ?_, ?_⟩
          · rw [k_mI_sI (by omega), k_mI_sI (by omega), k_mI_sI_e, up1_eq]; rfl
          · rw [k_mI_sI (by omega), k_mI_sI_e, up1_eq]; rfl
          · rw [k_mI_sI_e, up1_eq]; rfl
        have t51 := A.1
        have L1 := C1.lk L T ht
        obtain ⟨p1, a1, a2, a3, a4⟩ := P_apply_e (vs := vs) L1 (T.Ch C1.1) (hp.Ch C1.1 (by decide)) Wi hn60 h24 h14 ht ht h60 ini_W (fun j hj => by rw [C1.1.ai (by decide) (by omega) (by have := T.1; omega)]; exact hv j hj) hR0
        have C2 := C1.trans a4
        rw [ecl, bn_s, a1, bn_s]
        refine K p1 (C2.c2 ht) C2.2.1 C2.2.2.1 (C2.nw L T ht hw) (C2.lk L T ht) (T.Ch C2.1) (hp.Ch C2.1 (by decide)) (fun j hj => by rw [C2.1.ai (by decide) (by omega) (by have := T.1; omega)]; exact hv j hj) (fun k hk => by
          have lk : ta k < mC p := T.lt (by rw [(L.2.1.2.1 k hk).2.1]; decide)
          rw [C2.1.i (by decide) lk]; exact hI k hk) fun x k hx hxi hin' hw' => ?_
        have hk : k < D.2.1 := hod k (List.mem_of_getElem? hx)
        by_cases c : k = t
        · subst c; exact ⟨a2, a3⟩
        · have hxi' : x < i := by
            by_cases z : x = i
            · subst z
              rw [et] at hx
              cases hx
              exact absurd rfl c
            · omega
          obtain ⟨y1, y2⟩ := hR x k hx hxi' hin' hw'
          exact ⟨y1.keep C2 L T ht hk c, fun j hj => by rw [fate_keep C2 L T h14 ht hk hj c]; exact y2 j hj⟩
theorem kc_aI_e {m : Mem} {a0 sp a dp n : Nat} : aI (cpI m a0 sp a dp n) a = va_cpy (aI m a0) (aI m a) sp dp n := if_pos rfl
theorem kc_aI {m : Mem} {a0 sp a dp n b : Nat} (h : b ≠ a) : aI (cpI m a0 sp a dp n) b = aI m b := if_neg h
theorem kc_mC {m : Mem} {a0 sp a dp n : Nat} : mC (cpI m a0 sp a dp n) = mC m := id rfl
theorem kc_mS {m : Mem} {a0 sp a dp n : Nat} : mS (cpI m a0 sp a dp n) = mS m := id rfl
theorem ch_cpI {F A : List Nat} {dy : Nat → Prop} {m m1 : Mem} {a0 sp a dp n : Nat} (h : Ch F A dy m m1) (ha : a ∈ A) : Ch F A dy m (cpI m1 a0 sp a dp n) := by
  obtain ⟨a1, b1, c1, d1⟩ := h
  refine ⟨a1, b1, c1, fun b hb hd hm => ?_⟩
  have hne : b ≠ a := fun e => hb (e ▸ ha)
  have e1 : aI (cpI m1 a0 sp a dp n) b = aI m1 b := if_neg hne
  rw [e1]
  exact d1 b hb hd hm
/-- fields and arrays that open changes -/
def opF : List Nat := [268, 1287, 1292, 1293, 1294]
def opA : List Nat := [4, 26, 27]
theorem P_open_e (L : Lk fa ta ia sa ca od p D) (T : Top p) (hp : PL p) (W : WText D nc) (Wf : WFact D nc) (Wi : WItems D nc) (hn60 : nc ≤ 60) (hw : ∀ j, j < 4 → aI p 12 j = D.1 43 j) (h6 : ∀ j, j < 8 → aI p 6 j = D.1 37 j ∧ aI p 7 j = D.1 38 j) (hZ : ∀ j, j < 12 → j ≠ 0 → j ≠ 2 → j ≠ 3 → j ≠ 4 → aI p 26 j = 0) {f d n : Nat} (hf : f < 8) (hd : d < 140) (hn : n ≤ D.2.2) (yrs : Int32) :
    ∃ p', P_Scene_open (nj f) (nj d) (nj n) yrs p = some ((), p') ∧ Opened fa ta ia sa ca od D (vS D f d n 0) (fun k => inF D k (nj d) (nj f) n) p' ∧ (∀ j, j < 12 → aI p' 26 j = vS D f d n 0 j) ∧ (∀ j, j < 12 → aI p' 27 j = vS D f d n yrs j) ∧ Ch opF opA (dy2 ta D.2.1) p p' ∧ mC p' = mC p ∧ mS p' = mS p ∧ NWk ta D p p' := by
  have h160 := W.2.1
  have T1 := T.1
  have e35 : nj d / 35 = nj (d / 35) := nj_div (b := 35) (by omega) (by omega)
  have hod : ∀ k, k ∈ od → k < D.2.1 := fun k hk => (L.2.2.1.2.2.1 k).mp hk
  have g8 : ∀ {β : Type} (c : Option β), gd (inb (nj f) 8) c = c := fun c => by rw [inb_nj (by omega), gd_t (decide_eq_true hf)]
  have c1 : Ch opF opA (dy2 ta D.2.1) p (wI (cpI (wI (wI (wI (wI p 26 0 (leS D (D.1 37 f) (d / 35) n 4)) 26 2 (D.1 38 f)) 26 3 (D.1 37 f)) 26 4 (nj f)) 26 0 27 0 12) 27 1 yrs) :=
    (ch_cpI ((((Ch.rfl.wI (Or.inl (by decide))).wI (Or.inl (by decide))).wI (Or.inl (by decide))).wI (Or.inl (by decide))) (by decide)).wI (Or.inl (by decide))
  generalize hm1 : wI (cpI (wI (wI (wI (wI p 26 0 (leS D (D.1 37 f) (d / 35) n 4)) 26 2 (D.1 38 f)) 26 3 (D.1 37 f)) 26 4 (nj f)) 26 0 27 0 12) 27 1 yrs = m1 at c1
  have e26 : ∀ j, j < 12 → aI m1 26 j = vS D f d n 0 j := fun j hj => by
    rw [← hm1, k_aI_wI (by omega)]
    rw [kc_aI (by omega), k_aI_wI_e, k_aI_wI_e, k_aI_wI_e, k_aI_wI_e]
    simp only [up1_ap]
    unfold vS
    by_cases j4 : j = 4
    · subst j4; rfl
    · by_cases j3 : j = 3
      · subst j3; rfl
      · by_cases j2 : j = 2
        · subst j2; rfl
        · by_cases j0 : j = 0
          · subst j0; rfl
          · rw [if_neg j4, if_neg j3, if_neg j2, if_neg j0, if_neg j0, if_neg j2, if_neg j3, if_neg j4, hZ j hj j0 j2 j3 j4]
            by_cases j1 : j = 1
            · rw [if_pos j1]
            · rw [if_neg j1]
  have e27 : ∀ j, j < 12 → aI m1 27 j = vS D f d n yrs j := fun j hj => by
    have h0 := e26 j hj
    rw [← hm1] at h0 ⊢
    rw [k_aI_wI (by omega)] at h0
    rw [k_aI_wI_e, up1_ap]
    have hcp : ∀ m : Mem, aI (cpI m 26 0 27 0 12) 27 j = aI m 26 j := fun m => by
      rw [kc_aI_e]
      unfold va_cpy
      show (if 0 ≤ j ∧ j < 0 + 12 then aI m 26 (0 + (j - 0)) else _) = _
      rw [if_pos (by omega), Nat.zero_add, Nat.sub_zero]
    have hcp6 : ∀ m : Mem, aI (cpI m 26 0 27 0 12) 26 = aI m 26 := fun m => kc_aI (by omega)
    rw [hcp6] at h0
    unfold vS
    by_cases j1 : j = 1
    · subst j1; rfl
    · rw [if_neg j1, hcp, h0]
      unfold vS
      rw [if_neg j1, if_neg j1]
  have L1 : Lk fa ta ia sa ca od m1 D := L.Ch T (c1.mono (fun _ h => h) (fun _ h => h) (fun a ⟨k, hk, h⟩ => ⟨k, hk, by omega⟩)) (by decide) (by decide)
  have Tm := T.Ch c1
  have hpm := hp.Ch c1 (by decide)
  obtain ⟨p2, s1, s2, s3, s4, s5⟩ := P_setInForce_e (d := nj d) (f := nj f) W Wf hn L1 Tm
  have hC1 : mC m1 = mC p := by rw [← hm1, k_mC_wI, kc_mC, k_mC_wI, k_mC_wI, k_mC_wI, k_mC_wI]
  have hS1 : mS m1 = mS p := by rw [← hm1, k_mS_wI, kc_mS, k_mS_wI, k_mS_wI, k_mS_wI, k_mS_wI]
  have L2 := L1.Ch Tm s3.dy (by decide) (by decide)
  obtain ⟨p', o1, o2, o3, o4, o5, o6⟩ := P_open_104_e (vs := vS D f d n 0) (inf := fun k => inF D k (nj d) (nj f) n) W Wi hn60 hod D.2.1 0 FU p2 (by omega) (by have := W.1; unfold FU; omega) L2 (Tm.Ch s3) (hpm.Ch s3 (by decide)) (fun j hj => by rw [s3.ai (by decide) nil_no (by omega)]; exact e26 j hj) s2 (fun _ _ _ h => absurd h (by omega))
  have a26 : ∀ x, x = 26 ∨ x = 27 → aI p' x = aI m1 x := fun x hx => by
    have hlo : ¬ dy2 ta D.2.1 x := by
      rintro ⟨k, hk, h⟩
      have := (L.2.1.2.1 k hk).1
      omega
    rw [o3.ai (by simp; omega) hlo (by omega), s3.ai (by simp) nil_no (by omega)]
  refine ⟨p', ?_, o2, fun j hj => by rw [a26 26 (Or.inl rfl)]; exact e26 j hj, fun j hj => by rw [a26 27 (Or.inr rfl)]; exact e27 j hj, (c1.trans (s3.dy.mono (by decide) (by decide) (fun _ h => h))).trans (o3.mono (by decide) (by decide) (fun _ h => h)), by rw [o4, s4, hC1], by rw [o5, s5, hS1], fun k hk hk' => ?_⟩
  rotate_left
  · have lk : ta k < mC p := T.lt (by rw [(L.2.1.2.1 k hk).2.1]; decide)
    rw [o6 k hk hk', s3.i (by decide) (by omega), ← hm1, k_mI_wI]
    show mI _ 1292 (ta k) = _
    have : ∀ m : Mem, mI (cpI m 26 0 27 0 12) = mI m := fun _ => id rfl
    rw [this, k_mI_wI, k_mI_wI, k_mI_wI, k_mI_wI]
  unfold P_Scene_open
  simp only [g8, ix_nj (show f < 2147483648 by omega), (h6 f hf).1, e35, vb_e]
  rw [P_basket_e L.1 Wf h160 hw hp hn (by omega), bn_s]
  simp only [inb_lit (show (0 : Nat) < 2147483648 by omega), inb_lit (show (1 : Nat) < 2147483648 by omega), inb_lit (show (2 : Nat) < 2147483648 by omega), inb_lit (show (3 : Nat) < 2147483648 by omega), inb_lit (show (4 : Nat) < 2147483648 by omega), ix_lit (show (0 : Nat) < 2147483648 by omega), ix_lit (show (1 : Nat) < 2147483648 by omega), ix_lit (show (2 : Nat) < 2147483648 by omega), ix_lit (show (3 : Nat) < 2147483648 by omega), ix_lit (show (4 : Nat) < 2147483648 by omega), ix_lit (show (12 : Nat) < 2147483648 by omega)]
  rw [gd_t (by decide), gd_t (by decide), gd_t (by decide), gd_t (by decide), k_aI_wI (by omega), (h6 f hf).2]
  simp only [k_mN_wI, (PC_26 hp).2, (PC_27 hp).2]
  rw [gd_t (by decide), gd_t (by decide), hm1, s1, bn_s]
  exact o1
end Or
