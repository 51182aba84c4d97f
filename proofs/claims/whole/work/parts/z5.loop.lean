/-! Layer D: the law's loop -/
def swO : Array Int := #[195, 258, 281, 294, 307, 320, 333, 366, 409, 442, 475, 528, 571, 614, 647, 690, 733, 776, 819, 872, 915, 938, 961, 1014, 1077, 1152, 1215, 1268, 1321, 1374, 1427, 1480, 1533, 1596, 1649, 1692, 1745, 1788, 1868, 1956, 1989, 2048, 2091, 2124, 2157]
set_option maxRecDepth 100000 in
theorem d_sw : decode code 33 = .ok (.tableswitch 2180 0 44 swO, 195) := by decide +kernel
theorem nj_tI {k : Nat} (h : k < 64) : (nj k).toInt = (k : Int) := Int32.toInt_ofNat_of_lt (by omega)
theorem and63 (y : Int32) : ∃ k, k < 64 ∧ y &&& 63 = nj k := by
  refine ⟨(y &&& 63).toBitVec.toNat, ?_, ?_⟩
  · rw [Int32.toBitVec_and, BitVec.toNat_and]
    have : (63 : Int32).toBitVec.toNat = 2 ^ 6 - 1 := by decide
    rw [this, Nat.and_two_pow_sub_one_eq_mod]
    omega
  · apply Int32.toBitVec.inj
    unfold nj
    rw [Int32.toBitVec_ofNat']
    simp
section Lo
variable {p : Program} {l : Launch} {e : Env} {s : State} {m : MethodId} {below : List Frame} {meth : Method} {c : Code} {b L : Nat} {xs : Nat → Int32} {G : GG} {H : Heap} {cells slots nc w i : Nat} {ls : Array Slot} {Q : State → Prop} {pm rm : Mem}
set_option maxRecDepth 100000 in
set_option maxHeartbeats 4000000 in
/-- a step: the switch, a call or none -/
theorem law_step {k : Nat} (C : Lx G p s m meth c b L xs) (hL : L ≤ 4096) (hl : lv_has ls 4 [(3, .int (nj (8 * i))), (2, .ref (s.heap.size + 51)), (1, .ref s.heap.size), (0, .ref b)]) (hi : 8 * i + 8 ≤ L) (I : LJ G s pm rm H) (R : Rel nc w pm rm) (hb : w + 537600 < 2147483647) (hc : cells + 158 ≤ 600000) (hz : slots + 1300 ≤ 7302250) (hk : k < 64) (kk : ∀ (nc1 w1 : Nat) (pm1 rm1 : Mem) (H1 : Heap), LJ G s pm1 rm1 H1 → Rel nc1 w1 pm1 rm1 → w1 ≤ w + 537600 → WL p l e s m below meth c b H1 (cells + 158) (slots + 1300) Q ls 2213 []) : WL p l e s m below meth c b H cells slots Q ls 33 [.int (nj k)] := by
  have hx := C.1.1
  have hcode := C.1.2.1
  by_cases h45 : 45 ≤ k
  · refine lv_tableOut (tgt := 2213) hx hcode d_sw (Or.inr ?_) (by decide) ?_
    · rw [nj_tI hk]
      omega
    · exact W.widen (by omega) (by omega) (kk nc w pm rm H I R (by omega))
  · have go : ∀ (n tgt : Nat), n < 45 → (swO[n]?) = some ((tgt : Int) - 33) → k = n → WL p l e s m below meth c b H cells slots Q ls tgt [] → WL p l e s m below meth c b H cells slots Q ls 33 [.int (nj k)] := by
      intro n tgt hn hs hkn hw
      refine lv_tableIn (off := (tgt : Int) - 33) (tgt := tgt) hx hcode d_sw ?_ ?_ ?_ (by omega) hw
      · rw [nj_tI hk]
        omega
      · rw [nj_tI hk]
        omega
      · rw [nj_tI hk]
        have : ((k : Int) - 0).toNat = n := by omega
        rw [this]
        exact hs
    have hlt : k < 45 := by omega
    match k, hlt, go with
    | 0, _, go => exact go 0 228 (by decide) (by decide +kernel) rfl (law_c0 C hL hl hi I R hb hc hz kk)
    | 1, _, go => exact go 1 291 (by decide) (by decide +kernel) rfl (law_c1 C hL hl hi I R hb hc hz kk)
    | 2, _, go => exact go 2 314 (by decide) (by decide +kernel) rfl (law_c2 C hL hl hi I R hb hc hz kk)
    | 3, _, go => exact go 3 327 (by decide) (by decide +kernel) rfl (law_c3 C hL hl hi I R hb hc hz kk)
    | 4, _, go => exact go 4 340 (by decide) (by decide +kernel) rfl (law_c4 C hL hl hi I R hb hc hz kk)
    | 5, _, go => exact go 5 353 (by decide) (by decide +kernel) rfl (law_c5 C hL hl hi I R hb hc hz kk)
    | 6, _, go => exact go 6 366 (by decide) (by decide +kernel) rfl (law_c6 C hL hl hi I R hb hc hz kk)
    | 7, _, go => exact go 7 399 (by decide) (by decide +kernel) rfl (law_c7 C hL hl hi I R hb hc hz kk)
    | 8, _, go => exact go 8 442 (by decide) (by decide +kernel) rfl (law_c8 C hL hl hi I R hb hc hz kk)
    | 9, _, go => exact go 9 475 (by decide) (by decide +kernel) rfl (law_c9 C hL hl hi I R hb hc hz kk)
    | 10, _, go => exact go 10 508 (by decide) (by decide +kernel) rfl (law_c10 C hL hl hi I R hb hc hz kk)
    | 11, _, go => exact go 11 561 (by decide) (by decide +kernel) rfl (law_c11 C hL hl hi I R hb hc hz kk)
    | 12, _, go => exact go 12 604 (by decide) (by decide +kernel) rfl (law_c12 C hL hl hi I R hb hc hz kk)
    | 13, _, go => exact go 13 647 (by decide) (by decide +kernel) rfl (law_c13 C hL hl hi I R hb hc hz kk)
    | 14, _, go => exact go 14 680 (by decide) (by decide +kernel) rfl (law_c14 C hL hl hi I R hb hc hz kk)
    | 15, _, go => exact go 15 723 (by decide) (by decide +kernel) rfl (law_c15 C hL hl hi I R hb hc hz kk)
    | 16, _, go => exact go 16 766 (by decide) (by decide +kernel) rfl (law_c16 C hL hl hi I R hb hc hz kk)
    | 17, _, go => exact go 17 809 (by decide) (by decide +kernel) rfl (law_c17 C hL hl hi I R hb hc hz kk)
    | 18, _, go => exact go 18 852 (by decide) (by decide +kernel) rfl (law_c18 C hL hl hi I R hb hc hz kk)
    | 19, _, go => exact go 19 905 (by decide) (by decide +kernel) rfl (law_c19 C hL hl hi I R hb hc hz kk)
    | 20, _, go => exact go 20 948 (by decide) (by decide +kernel) rfl (law_c20 C hL hl hi I R hb hc hz kk)
    | 21, _, go => exact go 21 971 (by decide) (by decide +kernel) rfl (law_c21 C hL hl hi I R hb hc hz kk)
    | 22, _, go => exact go 22 994 (by decide) (by decide +kernel) rfl (law_c22 C hL hl hi I R hb hc hz kk)
    | 23, _, go => exact go 23 1047 (by decide) (by decide +kernel) rfl (law_c23 C hL hl hi I R hb hc hz kk)
    | 24, _, go => exact go 24 1110 (by decide) (by decide +kernel) rfl (law_c24 C hL hl hi I R hb hc hz kk)
    | 25, _, go => exact go 25 1185 (by decide) (by decide +kernel) rfl (law_c25 C hL hl hi I R hb hc hz kk)
    | 26, _, go => exact go 26 1248 (by decide) (by decide +kernel) rfl (law_c26 C hL hl hi I R hb hc hz kk)
    | 27, _, go => exact go 27 1301 (by decide) (by decide +kernel) rfl (law_c27 C hL hl hi I R hb hc hz kk)
    | 28, _, go => exact go 28 1354 (by decide) (by decide +kernel) rfl (law_c28 C hL hl hi I R hb hc hz kk)
    | 29, _, go => exact go 29 1407 (by decide) (by decide +kernel) rfl (law_c29 C hL hl hi I R hb hc hz kk)
    | 30, _, go => exact go 30 1460 (by decide) (by decide +kernel) rfl (law_c30 C hL hl hi I R hb hc hz kk)
    | 31, _, go => exact go 31 1513 (by decide) (by decide +kernel) rfl (law_c31 C hL hl hi I R hb hc hz kk)
    | 32, _, go => exact go 32 1566 (by decide) (by decide +kernel) rfl (law_c32 C hL hl hi I R hb hc hz kk)
    | 33, _, go => exact go 33 1629 (by decide) (by decide +kernel) rfl (law_c33 C hL hl hi I R hb hc hz kk)
    | 34, _, go => exact go 34 1682 (by decide) (by decide +kernel) rfl (law_c34 C hL hl hi I R hb hc hz kk)
    | 35, _, go => exact go 35 1725 (by decide) (by decide +kernel) rfl (law_c35 C hL hl hi I R hb hc hz kk)
    | 36, _, go => exact go 36 1778 (by decide) (by decide +kernel) rfl (law_c36 C hL hl hi I R hb hc hz kk)
    | 37, _, go => exact go 37 1821 (by decide) (by decide +kernel) rfl (law_c37 C hL hl hi I R hb hc hz kk)
    | 38, _, go => exact go 38 1901 (by decide) (by decide +kernel) rfl (law_c38 C hL hl hi I R hb hc hz kk)
    | 39, _, go => exact go 39 1989 (by decide) (by decide +kernel) rfl (law_c39 C hL hl hi I R hb hc hz kk)
    | 40, _, go => exact go 40 2022 (by decide) (by decide +kernel) rfl (law_c40 C hL hl hi I R hb hc hz kk)
    | 41, _, go => exact go 41 2081 (by decide) (by decide +kernel) rfl (law_c41 C hL hl hi I R hb hc hz kk)
    | 42, _, go => exact go 42 2124 (by decide) (by decide +kernel) rfl (law_c42 C hL hl hi I R hb hc hz kk)
    | 43, _, go => exact go 43 2157 (by decide) (by decide +kernel) rfl (law_c43 C hL hl hi I R hb hc hz kk)
    | 44, _, go => exact go 44 2190 (by decide) (by decide +kernel) rfl (law_c44 C hL hl hi I R hb hc hz kk)
    | n + 45, h, _ => omega
theorem law_gt {i L : Nat} (hL : L ≤ 4096) (hi : i ≤ 512) : (nj L - 8 < nj (8 * i)) ↔ L < 8 * i + 8 := by
  by_cases h : 8 ≤ L
  · have e1 : nj L - 8 = nj (L - 8) := nj_sub_l h
    rw [e1, nj_lt (by omega) (by omega)]
    omega
  · refine ⟨fun _ => by omega, fun _ => ?_⟩
    have h8 : ∀ n, n < 8 → nj n - 8 < 0 := by decide +kernel
    exact Int32.lt_of_lt_of_le (h8 L (by omega)) (nj_0le (by omega))
set_option maxRecDepth 100000 in
set_option maxHeartbeats 4000000 in
theorem law_loop (C : Lx G p s m meth c b L xs) (hL : L ≤ 4096) (S0 : Nat) (hS0 : S0 ≤ 200000) : ∀ (f i nc w : Nat) (pm rm : Mem) (H : Heap) (ls : Array Slot), 512 < i + f → i ≤ 512 → w ≤ 537600 * i → lv_has ls 4 [(3, .int (nj (8 * i))), (2, .ref (s.heap.size + 51)), (1, .ref s.heap.size), (0, .ref b)] → LJ G s pm rm H → Rel nc w pm rm → WL p l e s m below meth c b H (133 + 158 * i) (S0 + 1300 * i) (lw_Z below #[Value.ref b] s) ls 18 [] := by
  have hx := C.1.1
  have hcode := C.1.2.1
  obtain ⟨-, -, hr, hml, hown, -, hX, hbl, hlk, -⟩ := C.1
  intro f
  induction f with
  | zero => intro i nc w pm rm H ls h1 h2; omega
  | succ f ih =>
    intro i nc w pm rm H ls h1 h2 h3 hl I R
    have S := I.2.2.2.2
    have hbA : ¬ (fun q : Nat => s.heap.size ≤ q) b := Nat.not_le.mpr hbl
    refine lv_iload_n hx hcode (by decide +kernel : decode code 18 = .ok (.iload_n 3, 1)) rfl (lv_at hl 0 rfl) ?_
    refine lv_aload_n hx hcode (by decide +kernel : decode code 19 = .ok (.aload_n 0, 1)) rfl (lv_at hl 3 rfl) ?_
    refine va_slen hx hcode hX hbl hbA S (by decide +kernel : decode code 20 = .ok (.arraylength, 1)) ?_
    refine lv_bipush (v := 8) hx hcode (by decide +kernel : decode code 21 = .ok (.bipush 8, 2)) (by decide) ?_
    refine lv_isub hx hcode (by decide +kernel : decode code 23 = .ok (.isub, 1)) ?_
    refine lv_icmp_gt (tgt := 2219) hx hcode (by decide +kernel : decode code 24 = .ok (.if_icmp .gt 2195, 3)) (by decide) (fun _ => ?_) (fun hn => ?_)
    · refine lv_iconst (v := 1) hx hcode (by decide +kernel : decode code 2219 = .ok (.iconst 1, 1)) (by decide) ?_
      exact W.widen (by omega) (by omega) (lw_ret hx hcode hr hlk (by decide +kernel : decode code 2220 = .ok (.ireturn, 1)))
    · have hi : 8 * i + 8 ≤ L := Nat.not_lt.mp fun q => hn ((law_gt hL h2).mpr q)
      obtain ⟨v1, v2⟩ := law_ix (k := 0) hi hL (by decide)
      refine lv_aload_n hx hcode (by decide +kernel : decode code 27 = .ok (.aload_n 0, 1)) rfl (lv_at hl 3 rfl) ?_
      refine lv_iload_n hx hcode (by decide +kernel : decode code 28 = .ok (.iload_n 3, 1)) rfl (lv_at hl 0 rfl) ?_
      refine va_sld hx hcode hX hbl hbA S v1 (by decide +kernel : decode code 29 = .ok (.iaload, 1)) ?_
      refine lv_bipush (v := 63) hx hcode (by decide +kernel : decode code 30 = .ok (.bipush 63, 2)) (by decide) ?_
      refine lv_iand hx hcode (by decide +kernel : decode code 32 = .ok (.iand, 1)) ?_
      obtain ⟨k, hk, ek⟩ := and63 (xs (nj (8 * i + 0)).toNatClampNeg)
      show WL p l e s m below meth c b H (133 + 158 * i) (S0 + 1300 * i) (lw_Z below #[Value.ref b] s) ls 33 [.int (xs (nj (8 * i + 0)).toNatClampNeg &&& 63)]
      rw [ek]
      refine law_step C hL hl hi I R (by omega) (by omega) (by omega) hk fun nc1 w1 pm1 rm1 H1 I1 R1 hw1 => ?_
      refine lv_iinc (v := nj (8 * (i + 1))) (lv' := [(3, .int (nj (8 * (i + 1)))), (2, .ref (s.heap.size + 51)), (1, .ref s.heap.size), (0, .ref b)]) hx hcode (by decide +kernel : decode code 2213 = .ok (.iinc 3 8, 3)) hl (k := 0) rfl (by rw [show Int32.ofInt 8 = nj 8 from by decide, nj_add]; exact congrArg nj (by omega)) (by decide) rfl (fun ls1 hl1 => ?_)
      refine lv_goto (tgt := 18) hx hcode (by decide +kernel : decode code 2216 = .ok (.goto (-2198), 3)) (by decide) ?_
      exact W.widen (by omega) (by omega) (ih (i + 1) nc1 w1 pm1 rm1 H1 ls1 (by omega) (by omega) (by omega) hl1 I1 R1)
end Lo
