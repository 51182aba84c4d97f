/-! Layer C: the class makes a TEXT -/
def AmbV (D : Dt) (fc : Nat) (aw nmI : Int32) (m : Mem) (a : Nat) : Prop := (claimS D 7 aw nmI fc ≠ -1 ∧ claimS D 8 aw nmI fc ≠ -1 → mI m 266 a = jmin (claimS D 7 aw nmI fc) (claimS D 8 aw nmI fc) ∧ mI m 267 a = jmax (claimS D 7 aw nmI fc) (claimS D 8 aw nmI fc)) ∧ (claimS D 7 aw nmI fc = -1 ∨ claimS D 8 aw nmI fc = -1 → mI m 266 a = 1 ∧ mI m 267 a = 0)
/-- i of the k ITEMS are laid into the TEXT's array -/
def Mk (D : Dt) (fc k : Nat) (it : Nat → Nat) (aw : Option Int32) (i : Nat) (p m : Mem) : Prop := Ch [266, 267] [] nil p m ∧ mC m = mC p + 1 ∧ mS m = mS p + k ∧ mT m (mC p) = 36 ∧ mN m (mC p) = k ∧ (∀ j, j < i → aR m (mC p) j = some (it j)) ∧ (∀ b, b < mC p → (∀ j, j < k → b ≠ it j) → mI m 266 b = mI p 266 b ∧ mI m 267 b = mI p 267 b) ∧ (∀ j, i ≤ j → j < k → mI m 266 (it j) = 1 ∧ mI m 267 (it j) = 0) ∧ ∀ j, j < i → mI p 256 (it j) = nj 40 → ∀ w, aw = some w → AmbV D fc w (mI p 258 (it j)) m (it j)
section Ma
variable {p : Mem} {D : Dt} {k fc : Nat} {it fa ta : Nat → Nat}
theorem setAmbit_e {m : Mem} {a : Nat} {w : Int32} (L : LFact fa ta m D) (hfc : D.2.2 = fc) (h160 : fc ≤ 160) (ha : mT m a = 3) (h1 : mI m 266 a = 1) (h2 : mI m 267 a = 0) : ∃ m', P_Parser_setAmbit (some a) w m = some ((), m') ∧ AmbV D fc w (mI m 258 a) m' a ∧ (m' = m ∨ ∃ x y, m' = sI (sI m 266 a x) 267 a y) := by
  subst hfc
  unfold P_Parser_setAmbit AmbV
  rw [gs_s, gt_t ha, P_lastClaim_e L h160 (Or.inl rfl), bn_s, gt_t ha, P_lastClaim_e L h160 (Or.inr rfl), bn_s]
  generalize claimS D 7 w (mI m 258 a) D.2.2 = lg
  generalize claimS D 8 w (mI m 258 a) D.2.2 = an
  by_cases z : lg = -1
  · rw [if_pos z]
    exact ⟨m, rfl, ⟨fun q => absurd z q.1, fun _ => ⟨h1, h2⟩⟩, Or.inl rfl⟩
  · rw [if_neg z]
    by_cases y : an = -1
    · rw [if_pos y]
      exact ⟨m, rfl, ⟨fun q => absurd y q.2, fun _ => ⟨h1, h2⟩⟩, Or.inl rfl⟩
    · rw [if_neg y, gt_t ha, vb_e, vb_e]
      refine ⟨_, rfl, ⟨fun _ => ⟨?_, ?_⟩, fun q => ?_⟩, Or.inr ⟨_, _, rfl⟩⟩
      · rw [k_mI_sI (by omega), k_mI_sI_e, up1_ap, if_pos rfl]
      · rw [k_mI_sI_e, up1_ap, if_pos rfl]
      · rcases q with q | q
        · exact absurd q z
        · exact absurd q y
theorem AmbV.same {w nmI : Int32} {m m' : Mem} {a : Nat} (h : AmbV D fc w nmI m a) (e1 : mI m' 266 a = mI m 266 a) (e2 : mI m' 267 a = mI m 267 a) : AmbV D fc w nmI m' a := by
  unfold AmbV
  rw [e1, e2]
  exact h
theorem made33_e (T : Top p) (L : LFact fa ta p D) (hfc : D.2.2 = fc) (h160 : fc ≤ 160) (hk : k ≤ 30) (h782 : mI p 782 22 = nj k) (hI : ∀ j, j < k → aR p 24 j = some (it j) ∧ mT p (it j) = 3) (inj : ∀ j j', j < k → j' < k → it j = it j' → j = j') (o : Option Nat) (ho : ∀ a, o = some a → mT p a = 11) :
    ∀ (d i fu : Nat) (m : Mem), i + d = k → d < fu → Mk D fc k it (o.map (mI p 1281)) i p m → ∃ m', P_Parser_made_33 fu o (some (mC p)) (nj i) m = P_Parser_made_82 o (some (mC p)) m' ∧ Mk D fc k it (o.map (mI p 1281)) k p m'
  | 0, i, fu + 1, m, hd, _, hM => by
    have T1 := T.1
    rw [P_Parser_made_33.eq_2, hM.1.i (by decide) (by omega), h782, if_pos (by rw [nj_le (by omega) (by omega)]; omega)]
    exact ⟨m, rfl, by rw [show i = k by omega] at hM; exact hM⟩
  | d + 1, i, fu + 1, m, hd, hf, hM => by
    have T1 := T.1
    obtain ⟨a1, a2, a3, a4, a5, a6, a7, a8, a9⟩ := hM
    have hti := (hI i (by omega)).2
    have li : it i < mC p := T.lt (by rw [hti]; decide)
    have e24 : aR m 24 i = some (it i) := by rw [a1.ar (by decide) (fun z => z) (by omega)]; exact (hI i (by omega)).1
    have t3 : mT m (it i) = 3 := by rw [a1.t li]; exact hti
    have hz : ix (nj i) = i := ix_nj (by omega)
    have gi : inb (nj i) k = true := by rw [inb_nj (by omega)]; exact decide_eq_true (by omega)
    rw [P_Parser_made_33.eq_2, a1.i (by decide) (by omega), h782, if_neg (by rw [nj_le (by omega) (by omega)]; omega), gs_s, inb_nj (by omega), gd_t (decide_eq_true (by omega)), gt_t a4, a5, gd_t gi, hz, e24, go_s t3, vb_e]
    have c7 : Ch [266, 267] [] nil p (wR m (mC p) i (some (it i))) := ch_wRn a1 (Nat.le_refl _)
    have e7 : aR (wR m (mC p) i (some (it i))) (mC p) = up1 (aR m (mC p)) i (some (it i)) := k_aR_wR_e
    have f7 : ∀ f, mI (wR m (mC p) i (some (it i))) f = mI m f := fun f => by rw [k_mI_wR]
    have r7 : ∀ j, j < i + 1 → aR (wR m (mC p) i (some (it i))) (mC p) j = some (it j) := fun j hj => by
      rw [e7, up1_ap]
      by_cases q : j = i
      · rw [if_pos q, q]
      · rw [if_neg q]; exact a6 j (by omega)
    have n7 : mC (wR m (mC p) i (some (it i))) = mC p + 1 ∧ mS (wR m (mC p) i (some (it i))) = mS p + k ∧ mT (wR m (mC p) i (some (it i))) (mC p) = 36 ∧ mN (wR m (mC p) i (some (it i))) (mC p) = k := by
      rw [k_mC_wR, k_mS_wR, k_mT_wR, k_mN_wR]; exact ⟨a2, a3, a4, a5⟩
    have t37 : mT (wR m (mC p) i (some (it i))) (it i) = 3 := by rw [k_mT_wR]; exact t3
    generalize wR m (mC p) i (some (it i)) = m7 at *
    have next : ∀ q, Mk D fc k it (o.map (mI p 1281)) (i + 1) p q → ∃ m', P_Parser_made_76 (fun z0 z1 z2 z3 => P_Parser_made_33 fu z0 z1 z2 z3) o (some (mC p)) (nj i) q = P_Parser_made_82 o (some (mC p)) m' ∧ Mk D fc k it (o.map (mI p 1281)) k p m' := fun q hq => by
      unfold P_Parser_made_76
      rw [vb_e, nj_add_l]
      exact made33_e T L hfc h160 hk h782 hI inj o ho d (i + 1) fu q (by omega) (by omega) hq
    have plain : (mI p 256 (it i) = nj 40 → o = none) → Mk D fc k it (o.map (mI p 1281)) (i + 1) p m7 := fun hn => ⟨c7, n7.1, n7.2.1, n7.2.2.1, n7.2.2.2, r7, fun b hb hj => by rw [f7, f7]; exact a7 b hb hj, fun j j1 j2 => by rw [f7, f7]; exact a8 j (by omega) j2, fun j hj h256 w hw => by
      by_cases q : j = i
      · subst q
        rw [hn h256] at hw
        cases hw
      · exact (a9 j (by omega) h256 w hw).same (by rw [f7]) (by rw [f7])⟩
    cases o with
    | none =>
      rw [if_pos rfl]
      exact next m7 (plain fun _ => rfl)
    | some aT =>
      have tT : mT p aT = 11 := ho aT rfl
      have lT : aT < mC p := T.lt (by rw [tT]; decide)
      rw [if_neg (by simp), n7.2.2.2, gd_t gi, r7 i (by omega), gs_s, gt_t t37, f7, a1.i (by decide) li]
      by_cases z : mI p 256 (it i) = nj 40
      · have z' : mI p 256 (it i) = 40 := z
        have tT7 : mT m7 aT = 11 := by rw [c7.t lT]; exact tT
        obtain ⟨q1, q2⟩ := a8 i (Nat.le_refl _) (by omega)
        obtain ⟨m', s1, s2, s3⟩ := setAmbit_e (m := m7) (a := it i) (w := mI m7 1281 aT) (L.Ch T c7 (fun f hf => by simp only [List.mem_cons, List.not_mem_nil, or_false]; omega) (fun a _ => List.not_mem_nil) ⟨nil_no, fun _ _ => nil_no⟩) hfc h160 t37 (by rw [f7]; exact q1) (by rw [f7]; exact q2)
        rw [if_pos z', gd_t gi, gs_s, gt_t tT7, s1, bn_s]
        have e81 : mI m7 1281 aT = mI p 1281 aT := c7.i (by decide) lT
        have e58 : mI m7 258 (it i) = mI p 258 (it i) := c7.i (by decide) li
        rw [e81, e58] at s2
        refine next m' ?_
        have cm : Ch [266, 267] [] nil p m' := by
          rcases s3 with e | ⟨x, y, e⟩
          · rw [e]; exact c7
          · rw [e]; exact (c7.sI (by decide)).sI (by decide)
        have nm : mC m' = mC m7 ∧ mS m' = mS m7 ∧ mT m' = mT m7 ∧ mN m' = mN m7 ∧ aR m' = aR m7 := by
          rcases s3 with e | ⟨x, y, e⟩
          · rw [e]; exact ⟨rfl, rfl, rfl, rfl, rfl⟩
          · rw [e, k_mC_sI, k_mC_sI, k_mS_sI, k_mS_sI, k_mT_sI, k_mT_sI, k_mN_sI, k_mN_sI, k_aR_sI, k_aR_sI]; exact ⟨rfl, rfl, rfl, rfl, rfl⟩
        have om : ∀ f b, b ≠ it i → mI m' f b = mI m f b := fun f b hb => by
          rcases s3 with e | ⟨x, y, e⟩
          · rw [e, f7]
          · rw [e]
            have g1 : mI (sI (sI m7 266 (it i) x) 267 (it i) y) f b = mI (sI m7 266 (it i) x) f b := up2_ne fun w => hb w.2
            have g2 : mI (sI m7 266 (it i) x) f b = mI m7 f b := up2_ne fun w => hb w.2
            rw [g1, g2, f7]
        refine ⟨cm, nm.1.trans n7.1, nm.2.1.trans n7.2.1, by rw [nm.2.2.1]; exact n7.2.2.1, by rw [nm.2.2.2.1]; exact n7.2.2.2, fun j hj => by rw [nm.2.2.2.2]; exact r7 j hj, fun b hb hj => by rw [om 266 b (hj i (by omega)), om 267 b (hj i (by omega))]; exact a7 b hb hj, fun j j1 j2 => ?_, fun j hj h256 w hw => ?_⟩
        · have ne : it j ≠ it i := fun e => by
            have := inj j i j2 (by omega) e
            omega
          rw [om 266 _ ne, om 267 _ ne]
          exact a8 j (by omega) j2
        · by_cases q : j = i
          · subst q
            have : w = mI p 1281 aT := by
              cases hw
              rfl
            rw [this]
            exact s2
          · have ne : it j ≠ it i := fun e => q (inj j i (by omega) (by omega) e)
            exact (a9 j (by omega) h256 w hw).same (om 266 _ ne) (om 267 _ ne)
      · rw [if_neg (show ¬ mI p 256 (it i) = 40 from z)]
        exact next m7 (plain fun w => absurd w z)
end Ma
/-- the class's object of a TEXT: its rows are z long -/
def txP (m : Mem) (s f n g fr : Int32) (o : Option Nat) (A z : Nat) : Mem := sR (nw (sR (nw (sR (nw (sR (nw (sR (sR (sI (sI (sI (sI (sI (sI (sI (nw m 11 0 17) 1293 (mC m) 51) 1294 (mC m) 1) 1280 (mC m) s) 1281 (mC m) f) 1282 (mC m) n) 1283 (mC m) g) 1284 (mC m) fr) 1285 (mC m) o) 1286 (mC m) (some A)) 36 z z) 1288 (mC m) (some (mC m + 1))) 36 z z) 1289 (mC m) (some (mC m + 2))) 32 z z) 1290 (mC m) (some (mC m + 3))) 32 z z) 1291 (mC m) (some (mC m + 4))
section Tx
variable {m : Mem} {s f n g fr : Int32} {o : Option Nat} {A z : Nat}
theorem P_Text_69_e {q : Mem} {t : Nat} {v : Int32} (hv : v = nj z) (hz : z ≤ 60) (ht : mT q t = 11) (hc : mC q = t + 1) : P_Text_init_69 t v q = some ((), sR (nw (sR (nw (sR (nw (sR (nw q 36 z z) 1288 t (some (t + 1))) 36 z z) 1289 t (some (t + 2))) 32 z z) 1290 t (some (t + 3))) 32 z z) 1291 t (some (t + 4))) := by
  subst hv
  have gi : inb (nj z) 65536 = true := by rw [inb_nj (by omega)]; exact decide_eq_true (by omega)
  have hx : ix (nj z) = z := ix_nj (by omega)
  unfold P_Text_init_69
  simp only [vb_e, hx]
  rw [gd_t gi, gt_t (by simp only [k_aI_wI_e, k_aI_wI, k_aI_wL, k_aI_wR, k_aI_sI, k_aI_sL, k_aI_sR, k_aI_nw, k_aL_wL_e, k_aL_wL, k_aL_wI, k_aL_wR, k_aL_sI, k_aL_sL, k_aL_sR, k_aL_nw, k_aR_wR_e, k_aR_wR, k_aR_wI, k_aR_wL, k_aR_sI, k_aR_sL, k_aR_sR, k_aR_nw, k_mI_sI_e, k_mI_sI, k_mI_wI, k_mI_wL, k_mI_wR, k_mI_sL, k_mI_sR, k_mI_nw, k_mL_sL_e, k_mL_sL, k_mL_wI, k_mL_wL, k_mL_wR, k_mL_sI, k_mL_sR, k_mL_nw, k_mR_sR_e, k_mR_sR, k_mR_wI, k_mR_wL, k_mR_wR, k_mR_sI, k_mR_sL, k_mR_nw, k_mT_wI, k_mT_wL, k_mT_wR, k_mT_sI, k_mT_sL, k_mT_sR, k_mT_nw, k_mN_wI, k_mN_wL, k_mN_wR, k_mN_sI, k_mN_sL, k_mN_sR, k_mN_nw, k_mC_wI, k_mC_wL, k_mC_wR, k_mC_sI, k_mC_sL, k_mC_sR, k_mC_nw, k_mS_wI, k_mS_wL, k_mS_wR, k_mS_sI, k_mS_sL, k_mS_sR, k_mS_nw, k_zF_1, k_zF_3, k_zF_11, k_zF_32, k_zF_36, k_zA_1, k_zA_3, k_zA_11, k_zA_32, k_zA_36, k_mT_fil, k_mN_fil, k_mI_fil, k_mL_fil, k_mR_fil, k_aL_fil, k_aR_fil, k_mC_fil, k_mS_fil, k_aI_fil_e, k_aI_fil]; rw [up1_ne (by omega)]; exact ht), gd_t gi, gt_t (by simp only [k_aI_wI_e, k_aI_wI, k_aI_wL, k_aI_wR, k_aI_sI, k_aI_sL, k_aI_sR, k_aI_nw, k_aL_wL_e, k_aL_wL, k_aL_wI, k_aL_wR, k_aL_sI, k_aL_sL, k_aL_sR, k_aL_nw, k_aR_wR_e, k_aR_wR, k_aR_wI, k_aR_wL, k_aR_sI, k_aR_sL, k_aR_sR, k_aR_nw, k_mI_sI_e, k_mI_sI, k_mI_wI, k_mI_wL, k_mI_wR, k_mI_sL, k_mI_sR, k_mI_nw, k_mL_sL_e, k_mL_sL, k_mL_wI, k_mL_wL, k_mL_wR, k_mL_sI, k_mL_sR, k_mL_nw, k_mR_sR_e, k_mR_sR, k_mR_wI, k_mR_wL, k_mR_wR, k_mR_sI, k_mR_sL, k_mR_nw, k_mT_wI, k_mT_wL, k_mT_wR, k_mT_sI, k_mT_sL, k_mT_sR, k_mT_nw, k_mN_wI, k_mN_wL, k_mN_wR, k_mN_sI, k_mN_sL, k_mN_sR, k_mN_nw, k_mC_wI, k_mC_wL, k_mC_wR, k_mC_sI, k_mC_sL, k_mC_sR, k_mC_nw, k_mS_wI, k_mS_wL, k_mS_wR, k_mS_sI, k_mS_sL, k_mS_sR, k_mS_nw, k_zF_1, k_zF_3, k_zF_11, k_zF_32, k_zF_36, k_zA_1, k_zA_3, k_zA_11, k_zA_32, k_zA_36, k_mT_fil, k_mN_fil, k_mI_fil, k_mL_fil, k_mR_fil, k_aL_fil, k_aR_fil, k_mC_fil, k_mS_fil, k_aI_fil_e, k_aI_fil]; rw [up1_ne (by omega), up1_ne (by omega)]; exact ht), gd_t gi, gt_t (by simp only [k_aI_wI_e, k_aI_wI, k_aI_wL, k_aI_wR, k_aI_sI, k_aI_sL, k_aI_sR, k_aI_nw, k_aL_wL_e, k_aL_wL, k_aL_wI, k_aL_wR, k_aL_sI, k_aL_sL, k_aL_sR, k_aL_nw, k_aR_wR_e, k_aR_wR, k_aR_wI, k_aR_wL, k_aR_sI, k_aR_sL, k_aR_sR, k_aR_nw, k_mI_sI_e, k_mI_sI, k_mI_wI, k_mI_wL, k_mI_wR, k_mI_sL, k_mI_sR, k_mI_nw, k_mL_sL_e, k_mL_sL, k_mL_wI, k_mL_wL, k_mL_wR, k_mL_sI, k_mL_sR, k_mL_nw, k_mR_sR_e, k_mR_sR, k_mR_wI, k_mR_wL, k_mR_wR, k_mR_sI, k_mR_sL, k_mR_nw, k_mT_wI, k_mT_wL, k_mT_wR, k_mT_sI, k_mT_sL, k_mT_sR, k_mT_nw, k_mN_wI, k_mN_wL, k_mN_wR, k_mN_sI, k_mN_sL, k_mN_sR, k_mN_nw, k_mC_wI, k_mC_wL, k_mC_wR, k_mC_sI, k_mC_sL, k_mC_sR, k_mC_nw, k_mS_wI, k_mS_wL, k_mS_wR, k_mS_sI, k_mS_sL, k_mS_sR, k_mS_nw, k_zF_1, k_zF_3, k_zF_11, k_zF_32, k_zF_36, k_zA_1, k_zA_3, k_zA_11, k_zA_32, k_zA_36, k_mT_fil, k_mN_fil, k_mI_fil, k_mL_fil, k_mR_fil, k_aL_fil, k_aR_fil, k_mC_fil, k_mS_fil, k_aI_fil_e, k_aI_fil]; rw [up1_ne (by omega), up1_ne (by omega), up1_ne (by omega)]; exact ht), gd_t gi, gt_t (by simp only [k_aI_wI_e, k_aI_wI, k_aI_wL, k_aI_wR, k_aI_sI, k_aI_sL, k_aI_sR, k_aI_nw, k_aL_wL_e, k_aL_wL, k_aL_wI, k_aL_wR, k_aL_sI, k_aL_sL, k_aL_sR, k_aL_nw, k_aR_wR_e, k_aR_wR, k_aR_wI, k_aR_wL, k_aR_sI, k_aR_sL, k_aR_sR, k_aR_nw, k_mI_sI_e, k_mI_sI, k_mI_wI, k_mI_wL, k_mI_wR, k_mI_sL, k_mI_sR, k_mI_nw, k_mL_sL_e, k_mL_sL, k_mL_wI, k_mL_wL, k_mL_wR, k_mL_sI, k_mL_sR, k_mL_nw, k_mR_sR_e, k_mR_sR, k_mR_wI, k_mR_wL, k_mR_wR, k_mR_sI, k_mR_sL, k_mR_nw, k_mT_wI, k_mT_wL, k_mT_wR, k_mT_sI, k_mT_sL, k_mT_sR, k_mT_nw, k_mN_wI, k_mN_wL, k_mN_wR, k_mN_sI, k_mN_sL, k_mN_sR, k_mN_nw, k_mC_wI, k_mC_wL, k_mC_wR, k_mC_sI, k_mC_sL, k_mC_sR, k_mC_nw, k_mS_wI, k_mS_wL, k_mS_wR, k_mS_sI, k_mS_sL, k_mS_sR, k_mS_nw, k_zF_1, k_zF_3, k_zF_11, k_zF_32, k_zF_36, k_zA_1, k_zA_3, k_zA_11, k_zA_32, k_zA_36, k_mT_fil, k_mN_fil, k_mI_fil, k_mL_fil, k_mR_fil, k_aL_fil, k_aR_fil, k_mC_fil, k_mS_fil, k_aI_fil_e, k_aI_fil]; rw [up1_ne (by omega), up1_ne (by omega), up1_ne (by omega), up1_ne (by omega)]; exact ht)]
  simp only [k_aI_wI_e, k_aI_wI, k_aI_wL, k_aI_wR, k_aI_sI, k_aI_sL, k_aI_sR, k_aI_nw, k_aL_wL_e, k_aL_wL, k_aL_wI, k_aL_wR, k_aL_sI, k_aL_sL, k_aL_sR, k_aL_nw, k_aR_wR_e, k_aR_wR, k_aR_wI, k_aR_wL, k_aR_sI, k_aR_sL, k_aR_sR, k_aR_nw, k_mI_sI_e, k_mI_sI, k_mI_wI, k_mI_wL, k_mI_wR, k_mI_sL, k_mI_sR, k_mI_nw, k_mL_sL_e, k_mL_sL, k_mL_wI, k_mL_wL, k_mL_wR, k_mL_sI, k_mL_sR, k_mL_nw, k_mR_sR_e, k_mR_sR, k_mR_wI, k_mR_wL, k_mR_wR, k_mR_sI, k_mR_sL, k_mR_nw, k_mT_wI, k_mT_wL, k_mT_wR, k_mT_sI, k_mT_sL, k_mT_sR, k_mT_nw, k_mN_wI, k_mN_wL, k_mN_wR, k_mN_sI, k_mN_sL, k_mN_sR, k_mN_nw, k_mC_wI, k_mC_wL, k_mC_wR, k_mC_sI, k_mC_sL, k_mC_sR, k_mC_nw, k_mS_wI, k_mS_wL, k_mS_wR, k_mS_sI, k_mS_sL, k_mS_sR, k_mS_nw, k_zF_1, k_zF_3, k_zF_11, k_zF_32, k_zF_36, k_zA_1, k_zA_3, k_zA_11, k_zA_32, k_zA_36, k_mT_fil, k_mN_fil, k_mI_fil, k_mL_fil, k_mR_fil, k_aL_fil, k_aR_fil, k_mC_fil, k_mS_fil, k_aI_fil_e, k_aI_fil, hc]
theorem P_Text_init_e {s0 : Nat} (hs : s0 < 4) : P_Text_init (mC m) (nj s0) f n g fr o (some A) (nw m 11 0 17) = some ((), txP m (nj s0) f n g fr o A (if s0 = 0 ∨ s0 = 3 then 60 else 0)) := by
  have e0 : (nj s0 = 0) = (s0 = 0) := nj_eq_l (by omega) (by omega)
  have e3 : (nj s0 = 3) = (s0 = 3) := nj_eq_l (by omega) (by omega)
  unfold P_Text_init txP P_Text_init_63
  simp only [vb_e]
  have ht : mT (sR (sR (sI (sI (sI (sI (sI (sI (sI (nw m 11 0 17) 1293 (mC m) 51) 1294 (mC m) 1) 1280 (mC m) (nj s0)) 1281 (mC m) f) 1282 (mC m) n) 1283 (mC m) g) 1284 (mC m) fr) 1285 (mC m) o) 1286 (mC m) (some A)) (mC m) = 11 := by
    simp only [k_aI_wI_e, k_aI_wI, k_aI_wL, k_aI_wR, k_aI_sI, k_aI_sL, k_aI_sR, k_aI_nw, k_aL_wL_e, k_aL_wL, k_aL_wI, k_aL_wR, k_aL_sI, k_aL_sL, k_aL_sR, k_aL_nw, k_aR_wR_e, k_aR_wR, k_aR_wI, k_aR_wL, k_aR_sI, k_aR_sL, k_aR_sR, k_aR_nw, k_mI_sI_e, k_mI_sI, k_mI_wI, k_mI_wL, k_mI_wR, k_mI_sL, k_mI_sR, k_mI_nw, k_mL_sL_e, k_mL_sL, k_mL_wI, k_mL_wL, k_mL_wR, k_mL_sI, k_mL_sR, k_mL_nw, k_mR_sR_e, k_mR_sR, k_mR_wI, k_mR_wL, k_mR_wR, k_mR_sI, k_mR_sL, k_mR_nw, k_mT_wI, k_mT_wL, k_mT_wR, k_mT_sI, k_mT_sL, k_mT_sR, k_mT_nw, k_mN_wI, k_mN_wL, k_mN_wR, k_mN_sI, k_mN_sL, k_mN_sR, k_mN_nw, k_mC_wI, k_mC_wL, k_mC_wR, k_mC_sI, k_mC_sL, k_mC_sR, k_mC_nw, k_mS_wI, k_mS_wL, k_mS_wR, k_mS_sI, k_mS_sL, k_mS_sR, k_mS_nw, k_zF_1, k_zF_3, k_zF_11, k_zF_32, k_zF_36, k_zA_1, k_zA_3, k_zA_11, k_zA_32, k_zA_36, k_mT_fil, k_mN_fil, k_mI_fil, k_mL_fil, k_mR_fil, k_aL_fil, k_aR_fil, k_mC_fil, k_mS_fil, k_aI_fil_e, k_aI_fil]
    exact up1_eq
  have hc : mC (sR (sR (sI (sI (sI (sI (sI (sI (sI (nw m 11 0 17) 1293 (mC m) 51) 1294 (mC m) 1) 1280 (mC m) (nj s0)) 1281 (mC m) f) 1282 (mC m) n) 1283 (mC m) g) 1284 (mC m) fr) 1285 (mC m) o) 1286 (mC m) (some A)) = mC m + 1 := by
    simp only [k_aI_wI_e, k_aI_wI, k_aI_wL, k_aI_wR, k_aI_sI, k_aI_sL, k_aI_sR, k_aI_nw, k_aL_wL_e, k_aL_wL, k_aL_wI, k_aL_wR, k_aL_sI, k_aL_sL, k_aL_sR, k_aL_nw, k_aR_wR_e, k_aR_wR, k_aR_wI, k_aR_wL, k_aR_sI, k_aR_sL, k_aR_sR, k_aR_nw, k_mI_sI_e, k_mI_sI, k_mI_wI, k_mI_wL, k_mI_wR, k_mI_sL, k_mI_sR, k_mI_nw, k_mL_sL_e, k_mL_sL, k_mL_wI, k_mL_wL, k_mL_wR, k_mL_sI, k_mL_sR, k_mL_nw, k_mR_sR_e, k_mR_sR, k_mR_wI, k_mR_wL, k_mR_wR, k_mR_sI, k_mR_sL, k_mR_nw, k_mT_wI, k_mT_wL, k_mT_wR, k_mT_sI, k_mT_sL, k_mT_sR, k_mT_nw, k_mN_wI, k_mN_wL, k_mN_wR, k_mN_sI, k_mN_sL, k_mN_sR, k_mN_nw, k_mC_wI, k_mC_wL, k_mC_wR, k_mC_sI, k_mC_sL, k_mC_sR, k_mC_nw, k_mS_wI, k_mS_wL, k_mS_wR, k_mS_sI, k_mS_sL, k_mS_sR, k_mS_nw, k_zF_1, k_zF_3, k_zF_11, k_zF_32, k_zF_36, k_zA_1, k_zA_3, k_zA_11, k_zA_32, k_zA_36, k_mT_fil, k_mN_fil, k_mI_fil, k_mL_fil, k_mR_fil, k_aL_fil, k_aR_fil, k_mC_fil, k_mS_fil, k_aI_fil_e, k_aI_fil]
  by_cases w : s0 = 0 ∨ s0 = 3
  · rw [if_pos w]
    have e := P_Text_69_e (z := 60) (v := 60) rfl (by omega) ht hc
    rcases w with w | w
    · rw [if_pos (e0.mpr w), e]
    · rw [if_neg (fun q => by have := e0.mp q; omega), if_pos (e3.mpr w), e]
  · rw [if_neg w, if_neg (fun q => w (Or.inl (e0.mp q))), if_neg (fun q => w (Or.inr (e3.mp q)))]
    exact P_Text_69_e (z := 0) (v := 0) rfl (by omega) ht hc
theorem txP_C : mC (txP m s f n g fr o A z) = mC m + 5 ∧ mS (txP m s f n g fr o A z) = mS m + 17 + 4 * z := by
  unfold txP
  simp only [k_aI_wI_e, k_aI_wI, k_aI_wL, k_aI_wR, k_aI_sI, k_aI_sL, k_aI_sR, k_aI_nw, k_aL_wL_e, k_aL_wL, k_aL_wI, k_aL_wR, k_aL_sI, k_aL_sL, k_aL_sR, k_aL_nw, k_aR_wR_e, k_aR_wR, k_aR_wI, k_aR_wL, k_aR_sI, k_aR_sL, k_aR_sR, k_aR_nw, k_mI_sI_e, k_mI_sI, k_mI_wI, k_mI_wL, k_mI_wR, k_mI_sL, k_mI_sR, k_mI_nw, k_mL_sL_e, k_mL_sL, k_mL_wI, k_mL_wL, k_mL_wR, k_mL_sI, k_mL_sR, k_mL_nw, k_mR_sR_e, k_mR_sR, k_mR_wI, k_mR_wL, k_mR_wR, k_mR_sI, k_mR_sL, k_mR_nw, k_mT_wI, k_mT_wL, k_mT_wR, k_mT_sI, k_mT_sL, k_mT_sR, k_mT_nw, k_mN_wI, k_mN_wL, k_mN_wR, k_mN_sI, k_mN_sL, k_mN_sR, k_mN_nw, k_mC_wI, k_mC_wL, k_mC_wR, k_mC_sI, k_mC_sL, k_mC_sR, k_mC_nw, k_mS_wI, k_mS_wL, k_mS_wR, k_mS_sI, k_mS_sL, k_mS_sR, k_mS_nw, k_zF_1, k_zF_3, k_zF_11, k_zF_32, k_zF_36, k_zA_1, k_zA_3, k_zA_11, k_zA_32, k_zA_36, k_mT_fil, k_mN_fil, k_mI_fil, k_mL_fil, k_mR_fil, k_aL_fil, k_aR_fil, k_mC_fil, k_mS_fil, k_aI_fil_e, k_aI_fil]
  constructor
  · first | trivial | omega
  · first | trivial | omega
theorem txP_Ch : Ch [] [] nil m (txP m s f n g fr o A z) := by
  unfold txP
  have h1 : mC m ≤ mC m := Nat.le_refl _
  exact ch_sRn (ch_sRn (ch_sRn (ch_sRn (ch_sRn (ch_sRn (ch_sIn (ch_sIn (ch_sIn (ch_sIn (ch_sIn (ch_sIn (ch_sIn Ch.rfl.nw h1) h1) h1) h1) h1) h1) h1) h1) h1).nw h1).nw h1).nw h1).nw h1
theorem txP_t : mT (txP m s f n g fr o A z) (mC m) = 11 ∧ mT (txP m s f n g fr o A z) (mC m + 1) = 36 ∧ mT (txP m s f n g fr o A z) (mC m + 2) = 36 ∧ mT (txP m s f n g fr o A z) (mC m + 3) = 32 ∧ mT (txP m s f n g fr o A z) (mC m + 4) = 32 ∧ mN (txP m s f n g fr o A z) (mC m + 1) = z ∧ mN (txP m s f n g fr o A z) (mC m + 2) = z ∧ mN (txP m s f n g fr o A z) (mC m + 3) = z ∧ mN (txP m s f n g fr o A z) (mC m + 4) = z := by
  unfold txP
  refine ⟨?_, ?_, ?_, ?_, ?_, ?_, ?_, ?_, ?_⟩ <;> simp (disch := omega) [k_aI_wI_e, k_aI_wI, k_aI_wL, k_aI_wR, k_aI_sI, k_aI_sL, k_aI_sR, k_aI_nw, k_aL_wL_e, k_aL_wL, k_aL_wI, k_aL_wR, k_aL_sI, k_aL_sL, k_aL_sR, k_aL_nw, k_aR_wR_e, k_aR_wR, k_aR_wI, k_aR_wL, k_aR_sI, k_aR_sL, k_aR_sR, k_aR_nw, k_mI_sI_e, k_mI_sI, k_mI_wI, k_mI_wL, k_mI_wR, k_mI_sL, k_mI_sR, k_mI_nw, k_mL_sL_e, k_mL_sL, k_mL_wI, k_mL_wL, k_mL_wR, k_mL_sI, k_mL_sR, k_mL_nw, k_mR_sR_e, k_mR_sR, k_mR_wI, k_mR_wL, k_mR_wR, k_mR_sI, k_mR_sL, k_mR_nw, k_mT_wI, k_mT_wL, k_mT_wR, k_mT_sI, k_mT_sL, k_mT_sR, k_mT_nw, k_mN_wI, k_mN_wL, k_mN_wR, k_mN_sI, k_mN_sL, k_mN_sR, k_mN_nw, k_mC_wI, k_mC_wL, k_mC_wR, k_mC_sI, k_mC_sL, k_mC_sR, k_mC_nw, k_mS_wI, k_mS_wL, k_mS_wR, k_mS_sI, k_mS_sL, k_mS_sR, k_mS_nw, k_zF_1, k_zF_3, k_zF_11, k_zF_32, k_zF_36, k_zA_1, k_zA_3, k_zA_11, k_zA_32, k_zA_36, k_mT_fil, k_mN_fil, k_mI_fil, k_mL_fil, k_mR_fil, k_aL_fil, k_aR_fil, k_mC_fil, k_mS_fil, k_aI_fil_e, k_aI_fil, up1_ap] <;> first | omega | (repeat rw [if_neg (by omega)])
theorem txP_f : mI (txP m s f n g fr o A z) 1280 (mC m) = s ∧ mI (txP m s f n g fr o A z) 1281 (mC m) = f ∧ mI (txP m s f n g fr o A z) 1282 (mC m) = n ∧ mI (txP m s f n g fr o A z) 1283 (mC m) = g ∧ mI (txP m s f n g fr o A z) 1284 (mC m) = fr ∧ mI (txP m s f n g fr o A z) 1292 (mC m) = 0 ∧ mR (txP m s f n g fr o A z) 1285 (mC m) = o ∧ mR (txP m s f n g fr o A z) 1286 (mC m) = some A ∧ mR (txP m s f n g fr o A z) 1288 (mC m) = some (mC m + 1) ∧ mR (txP m s f n g fr o A z) 1289 (mC m) = some (mC m + 2) ∧ mR (txP m s f n g fr o A z) 1290 (mC m) = some (mC m + 3) ∧ mR (txP m s f n g fr o A z) 1291 (mC m) = some (mC m + 4) := by
  unfold txP
  refine ⟨?_, ?_, ?_, ?_, ?_, ?_, ?_, ?_, ?_, ?_, ?_, ?_⟩ <;> simp [k_aI_wI_e, k_aI_wI, k_aI_wL, k_aI_wR, k_aI_sI, k_aI_sL, k_aI_sR, k_aI_nw, k_aL_wL_e, k_aL_wL, k_aL_wI, k_aL_wR, k_aL_sI, k_aL_sL, k_aL_sR, k_aL_nw, k_aR_wR_e, k_aR_wR, k_aR_wI, k_aR_wL, k_aR_sI, k_aR_sL, k_aR_sR, k_aR_nw, k_mI_sI_e, k_mI_sI, k_mI_wI, k_mI_wL, k_mI_wR, k_mI_sL, k_mI_sR, k_mI_nw, k_mL_sL_e, k_mL_sL, k_mL_wI, k_mL_wL, k_mL_wR, k_mL_sI, k_mL_sR, k_mL_nw, k_mR_sR_e, k_mR_sR, k_mR_wI, k_mR_wL, k_mR_wR, k_mR_sI, k_mR_sL, k_mR_nw, k_mT_wI, k_mT_wL, k_mT_wR, k_mT_sI, k_mT_sL, k_mT_sR, k_mT_nw, k_mN_wI, k_mN_wL, k_mN_wR, k_mN_sI, k_mN_sL, k_mN_sR, k_mN_nw, k_mC_wI, k_mC_wL, k_mC_wR, k_mC_sI, k_mC_sL, k_mC_sR, k_mC_nw, k_mS_wI, k_mS_wL, k_mS_wR, k_mS_sI, k_mS_sL, k_mS_sR, k_mS_nw, k_zF_1, k_zF_3, k_zF_11, k_zF_32, k_zF_36, k_zA_1, k_zA_3, k_zA_11, k_zA_32, k_zA_36, k_mT_fil, k_mN_fil, k_mI_fil, k_mL_fil, k_mR_fil, k_aL_fil, k_aR_fil, k_mC_fil, k_mS_fil, k_aI_fil_e, k_aI_fil, up1_ap]
theorem txP_0 (j : Nat) : aI (txP m s f n g fr o A z) (mC m + 3) j = 0 := by
  unfold txP
  simp [k_aI_wI_e, k_aI_wI, k_aI_wL, k_aI_wR, k_aI_sI, k_aI_sL, k_aI_sR, k_aI_nw, k_aL_wL_e, k_aL_wL, k_aL_wI, k_aL_wR, k_aL_sI, k_aL_sL, k_aL_sR, k_aL_nw, k_aR_wR_e, k_aR_wR, k_aR_wI, k_aR_wL, k_aR_sI, k_aR_sL, k_aR_sR, k_aR_nw, k_mI_sI_e, k_mI_sI, k_mI_wI, k_mI_wL, k_mI_wR, k_mI_sL, k_mI_sR, k_mI_nw, k_mL_sL_e, k_mL_sL, k_mL_wI, k_mL_wL, k_mL_wR, k_mL_sI, k_mL_sR, k_mL_nw, k_mR_sR_e, k_mR_sR, k_mR_wI, k_mR_wL, k_mR_wR, k_mR_sI, k_mR_sL, k_mR_nw, k_mT_wI, k_mT_wL, k_mT_wR, k_mT_sI, k_mT_sL, k_mT_sR, k_mT_nw, k_mN_wI, k_mN_wL, k_mN_wR, k_mN_sI, k_mN_sL, k_mN_sR, k_mN_nw, k_mC_wI, k_mC_wL, k_mC_wR, k_mC_sI, k_mC_sL, k_mC_sR, k_mC_nw, k_mS_wI, k_mS_wL, k_mS_wR, k_mS_sI, k_mS_sL, k_mS_sR, k_mS_nw, k_zF_1, k_zF_3, k_zF_11, k_zF_32, k_zF_36, k_zA_1, k_zA_3, k_zA_11, k_zA_32, k_zA_36, k_mT_fil, k_mN_fil, k_mI_fil, k_mL_fil, k_mR_fil, k_aL_fil, k_aR_fil, k_mC_fil, k_mS_fil, k_aI_fil_e, k_aI_fil, up1_ap]
end Tx
