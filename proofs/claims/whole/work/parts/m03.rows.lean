/-! rows of arithmetic, stack, stores, branches: written by gen/rows1.py -/
section Rows
variable {M : MI} {pc : Nat} {ls : List (Nat × Value)} {st : List Value} {m m' : Mem} {v : Option Value}
theorem r_iadd {x y : Int32} (hd : decode M.2.1 pc = .ok (.iadd, 1)) (h : Run M (pc + 1) ls (.int (x + y) :: st) m v m') : Run M pc ls (.int y :: .int x :: st) m v m' :=
  h.up fun _ _ _ _ _ _ _ _ _ _ _ _ _ _ _ _ _ _ J C L _ q => lv_iadd C.1 C.2.1 hd q
theorem r_isub {x y : Int32} (hd : decode M.2.1 pc = .ok (.isub, 1)) (h : Run M (pc + 1) ls (.int (x - y) :: st) m v m') : Run M pc ls (.int y :: .int x :: st) m v m' :=
  h.up fun _ _ _ _ _ _ _ _ _ _ _ _ _ _ _ _ _ _ J C L _ q => lv_isub C.1 C.2.1 hd q
theorem r_imul {x y : Int32} (hd : decode M.2.1 pc = .ok (.imul, 1)) (h : Run M (pc + 1) ls (.int (x * y) :: st) m v m') : Run M pc ls (.int y :: .int x :: st) m v m' :=
  h.up fun _ _ _ _ _ _ _ _ _ _ _ _ _ _ _ _ _ _ J C L _ q => lv_imul C.1 C.2.1 hd q
theorem r_iand {x y : Int32} (hd : decode M.2.1 pc = .ok (.iand, 1)) (h : Run M (pc + 1) ls (.int (x &&& y) :: st) m v m') : Run M pc ls (.int y :: .int x :: st) m v m' :=
  h.up fun _ _ _ _ _ _ _ _ _ _ _ _ _ _ _ _ _ _ J C L _ q => lv_iand C.1 C.2.1 hd q
theorem r_ior {x y : Int32} (hd : decode M.2.1 pc = .ok (.ior, 1)) (h : Run M (pc + 1) ls (.int (x ||| y) :: st) m v m') : Run M pc ls (.int y :: .int x :: st) m v m' :=
  h.up fun _ _ _ _ _ _ _ _ _ _ _ _ _ _ _ _ _ _ J C L _ q => lv_ior C.1 C.2.1 hd q
theorem r_ixor {x y : Int32} (hd : decode M.2.1 pc = .ok (.ixor, 1)) (h : Run M (pc + 1) ls (.int (x ^^^ y) :: st) m v m') : Run M pc ls (.int y :: .int x :: st) m v m' :=
  h.up fun _ _ _ _ _ _ _ _ _ _ _ _ _ _ _ _ _ _ J C L _ q => lv_ixor C.1 C.2.1 hd q
theorem r_ishl {x y : Int32} (hd : decode M.2.1 pc = .ok (.ishl, 1)) (h : Run M (pc + 1) ls (.int (x <<< (y &&& 31)) :: st) m v m') : Run M pc ls (.int y :: .int x :: st) m v m' :=
  h.up fun _ _ _ _ _ _ _ _ _ _ _ _ _ _ _ _ _ _ J C L _ q => lv_ishl C.1 C.2.1 hd q
theorem r_ishr {x y : Int32} (hd : decode M.2.1 pc = .ok (.ishr, 1)) (h : Run M (pc + 1) ls (.int (x >>> (y &&& 31)) :: st) m v m') : Run M pc ls (.int y :: .int x :: st) m v m' :=
  h.up fun _ _ _ _ _ _ _ _ _ _ _ _ _ _ _ _ _ _ J C L _ q => lv_ishr C.1 C.2.1 hd q
theorem r_ladd {x y : Int64} (hd : decode M.2.1 pc = .ok (.ladd, 1)) (h : Run M (pc + 1) ls (.long (x + y) :: st) m v m') : Run M pc ls (.long y :: .long x :: st) m v m' :=
  h.up fun _ _ _ _ _ _ _ _ _ _ _ _ _ _ _ _ _ _ J C L _ q => lv_ladd C.1 C.2.1 hd q
theorem r_lsub {x y : Int64} (hd : decode M.2.1 pc = .ok (.lsub, 1)) (h : Run M (pc + 1) ls (.long (x - y) :: st) m v m') : Run M pc ls (.long y :: .long x :: st) m v m' :=
  h.up fun _ _ _ _ _ _ _ _ _ _ _ _ _ _ _ _ _ _ J C L _ q => lv_lsub C.1 C.2.1 hd q
theorem r_lmul {x y : Int64} (hd : decode M.2.1 pc = .ok (.lmul, 1)) (h : Run M (pc + 1) ls (.long (x * y) :: st) m v m') : Run M pc ls (.long y :: .long x :: st) m v m' :=
  h.up fun _ _ _ _ _ _ _ _ _ _ _ _ _ _ _ _ _ _ J C L _ q => lv_lmul C.1 C.2.1 hd q
theorem r_land {x y : Int64} (hd : decode M.2.1 pc = .ok (.land, 1)) (h : Run M (pc + 1) ls (.long (x &&& y) :: st) m v m') : Run M pc ls (.long y :: .long x :: st) m v m' :=
  h.up fun _ _ _ _ _ _ _ _ _ _ _ _ _ _ _ _ _ _ J C L _ q => lv_land C.1 C.2.1 hd q
theorem r_lor {x y : Int64} (hd : decode M.2.1 pc = .ok (.lor, 1)) (h : Run M (pc + 1) ls (.long (x ||| y) :: st) m v m') : Run M pc ls (.long y :: .long x :: st) m v m' :=
  h.up fun _ _ _ _ _ _ _ _ _ _ _ _ _ _ _ _ _ _ J C L _ q => lv_lor C.1 C.2.1 hd q
theorem r_idiv {x y : Int32} (hd : decode M.2.1 pc = .ok (.idiv, 1)) (hn : ¬ y = 0) (h : Run M (pc + 1) ls (.int (x / y) :: st) m v m') : Run M pc ls (.int y :: .int x :: st) m v m' :=
  h.up fun _ _ _ _ _ _ _ _ _ _ _ _ _ _ _ _ _ _ J C L _ q => lv_idiv C.1 C.2.1 hd hn q
theorem r_irem {x y : Int32} (hd : decode M.2.1 pc = .ok (.irem, 1)) (hn : ¬ y = 0) (h : Run M (pc + 1) ls (.int (x - x / y * y) :: st) m v m') : Run M pc ls (.int y :: .int x :: st) m v m' :=
  h.up fun _ _ _ _ _ _ _ _ _ _ _ _ _ _ _ _ _ _ J C L _ q => lv_irem C.1 C.2.1 hd hn q
theorem r_ldiv {x y : Int64} (hd : decode M.2.1 pc = .ok (.ldiv, 1)) (hn : ¬ y = 0) (h : Run M (pc + 1) ls (.long (x / y) :: st) m v m') : Run M pc ls (.long y :: .long x :: st) m v m' :=
  h.up fun _ _ _ _ _ _ _ _ _ _ _ _ _ _ _ _ _ _ J C L _ q => lv_ldiv C.1 C.2.1 hd hn q
theorem r_iushr {x y : Int32} (hd : decode M.2.1 pc = .ok (.iushr, 1)) (h : Run M (pc + 1) ls (.int ((x.toUInt32 >>> (y.toUInt32 &&& Int32.toUInt32 31)).toInt32) :: st) m v m') : Run M pc ls (.int y :: .int x :: st) m v m' :=
  h.up fun _ _ _ _ _ _ _ _ _ _ _ _ _ _ _ _ _ _ J C L _ q => lv_iushr C.1 C.2.1 hd rfl q
theorem r_lshl {x : Int64} {y : Int32} (hd : decode M.2.1 pc = .ok (.lshl, 1)) (h : Run M (pc + 1) ls (.long (x <<< (y.toInt64 &&& 63)) :: st) m v m') : Run M pc ls (.int y :: .long x :: st) m v m' :=
  h.up fun _ _ _ _ _ _ _ _ _ _ _ _ _ _ _ _ _ _ J C L _ q => lv_lshl C.1 C.2.1 hd rfl q
theorem r_lshr {x : Int64} {y : Int32} (hd : decode M.2.1 pc = .ok (.lshr, 1)) (h : Run M (pc + 1) ls (.long (x >>> (y.toInt64 &&& 63)) :: st) m v m') : Run M pc ls (.int y :: .long x :: st) m v m' :=
  h.up fun _ _ _ _ _ _ _ _ _ _ _ _ _ _ _ _ _ _ J C L _ q => lv_lshr C.1 C.2.1 hd rfl q
theorem r_i2l {x : Int32} (hd : decode M.2.1 pc = .ok (.i2l, 1)) (h : Run M (pc + 1) ls (.long (x.toInt64) :: st) m v m') : Run M pc ls (.int x :: st) m v m' :=
  h.up fun _ _ _ _ _ _ _ _ _ _ _ _ _ _ _ _ _ _ J C L _ q => lv_i2l C.1 C.2.1 hd rfl q
theorem r_l2i {x : Int64} (hd : decode M.2.1 pc = .ok (.l2i, 1)) (h : Run M (pc + 1) ls (.int (x.toInt32) :: st) m v m') : Run M pc ls (.long x :: st) m v m' :=
  h.up fun _ _ _ _ _ _ _ _ _ _ _ _ _ _ _ _ _ _ J C L _ q => lv_l2i C.1 C.2.1 hd rfl q
theorem r_i2b {x : Int32} (hd : decode M.2.1 pc = .ok (.i2b, 1)) (h : Run M (pc + 1) ls (.int (x.toInt8.toInt32) :: st) m v m') : Run M pc ls (.int x :: st) m v m' :=
  h.up fun _ _ _ _ _ _ _ _ _ _ _ _ _ _ _ _ _ _ J C L _ q => lv_i2b C.1 C.2.1 hd rfl q
theorem r_lcmp {x y : Int64} (hd : decode M.2.1 pc = .ok (.lcmp, 1)) (h : Run M (pc + 1) ls (.int (lg_cmp x y) :: st) m v m') : Run M pc ls (.long y :: .long x :: st) m v m' :=
  h.up fun _ _ _ _ _ _ _ _ _ _ _ _ _ _ _ _ _ _ J C L _ q => W.lcmp C.1 C.2.1 hd q
theorem r_dup {x : Value} (hd : decode M.2.1 pc = .ok (.dup, 1)) (hc : x.category = 1) (h : Run M (pc + 1) ls (x :: x :: st) m v m') : Run M pc ls (x :: st) m v m' :=
  h.up fun _ _ _ _ _ _ _ _ _ _ _ _ _ _ _ _ _ _ J C L _ q => lv_dup C.1 C.2.1 hd ((cv_cat _ _ _).trans hc) q
theorem r_dup2 {x y : Value} (hd : decode M.2.1 pc = .ok (.dup2, 1)) (hc : x.category = 1) (hy : y.category = 1) (h : Run M (pc + 1) ls (x :: y :: x :: y :: st) m v m') : Run M pc ls (x :: y :: st) m v m' :=
  h.up fun _ _ _ _ _ _ _ _ _ _ _ _ _ _ _ _ _ _ J C L _ q => lv_dup2_11 C.1 C.2.1 hd ((cv_cat _ _ _).trans hc) ((cv_cat _ _ _).trans hy) q
theorem r_pop {x : Value} (hd : decode M.2.1 pc = .ok (.pop, 1)) (hc : x.category = 1) (h : Run M (pc + 1) ls st m v m') : Run M pc ls (x :: st) m v m' :=
  h.up fun _ _ _ _ _ _ _ _ _ _ _ _ _ _ _ _ _ _ J C L _ q => lv_pop C.1 C.2.1 hd ((cv_cat _ _ _).trans hc) q
theorem r_ldc {i : Nat} {x : Int32} (hd : decode M.2.1 pc = .ok (.ldc i, 2)) (hw : Cond.constant M.1.cls i x ∈ g_tbl) (h : Run M (pc + 2) ls (.int x :: st) m v m') : Run M pc ls st m v m' :=
  h.up fun _ _ _ _ _ _ _ _ _ _ _ _ _ _ _ _ _ _ J C L _ q => lv_ldc C.1 C.2.1 C.2.2.2.2.2.2.1 (C.2.2.2.2.2.2.2.1 _ hw) hd q
theorem r_ldc_w {i : Nat} {x : Int32} (hd : decode M.2.1 pc = .ok (.ldc_w i, 3)) (hw : Cond.constant M.1.cls i x ∈ g_tbl) (h : Run M (pc + 3) ls (.int x :: st) m v m') : Run M pc ls st m v m' :=
  h.up fun _ _ _ _ _ _ _ _ _ _ _ _ _ _ _ _ _ _ J C L _ q => lv_ldcw C.1 C.2.1 C.2.2.2.2.2.2.1 (C.2.2.2.2.2.2.2.1 _ hw) hd q
theorem r_ldc2_w {i : Nat} {x : Int64} (hd : decode M.2.1 pc = .ok (.ldc2_w i, 3)) (hw : Cond.constantLong M.1.cls i x ∈ g_tbl) (h : Run M (pc + 3) ls (.long x :: st) m v m') : Run M pc ls st m v m' :=
  h.up fun _ _ _ _ _ _ _ _ _ _ _ _ _ _ _ _ _ _ J C L _ q => lv_ldc2 C.1 C.2.1 C.2.2.2.2.2.2.1 (C.2.2.2.2.2.2.2.1 _ hw) hd q
theorem r_icmp_eq_t {x y : Int32} {off : Int} {tgt : Nat} (hd : decode M.2.1 pc = .ok (.if_icmp .eq off, 3)) (ht : (pc : Int) + off = (tgt : Int)) (hc : x = y) (h : Run M tgt ls st m v m') : Run M pc ls (.int y :: .int x :: st) m v m' :=
  h.up fun _ _ _ _ _ _ _ _ _ _ _ _ _ _ _ _ _ _ J C L _ q => lv_icmp_eq C.1 C.2.1 hd ht (fun _ => q) (fun hn => absurd hc hn)
theorem r_icmp_eq_f {x y : Int32} {off : Int} (tgt : Nat) (hd : decode M.2.1 pc = .ok (.if_icmp .eq off, 3)) (ht : (pc : Int) + off = (tgt : Int)) (hc : ¬ x = y) (h : Run M (pc + 3) ls st m v m') : Run M pc ls (.int y :: .int x :: st) m v m' :=
  h.up fun _ _ _ _ _ _ _ _ _ _ _ _ _ _ _ _ _ _ J C L _ q => lv_icmp_eq C.1 C.2.1 hd ht (fun hn => absurd hn hc) (fun _ => q)
theorem r_if_eq_t {x : Int32} {off : Int} {tgt : Nat} (hd : decode M.2.1 pc = .ok (.ifCond .eq off, 3)) (ht : (pc : Int) + off = (tgt : Int)) (hc : x = 0) (h : Run M tgt ls st m v m') : Run M pc ls (.int x :: st) m v m' :=
  h.up fun _ _ _ _ _ _ _ _ _ _ _ _ _ _ _ _ _ _ J C L _ q => lv_if_eq C.1 C.2.1 hd ht (fun _ => q) (fun hn => absurd hc hn)
theorem r_if_eq_f {x : Int32} {off : Int} (tgt : Nat) (hd : decode M.2.1 pc = .ok (.ifCond .eq off, 3)) (ht : (pc : Int) + off = (tgt : Int)) (hc : ¬ x = 0) (h : Run M (pc + 3) ls st m v m') : Run M pc ls (.int x :: st) m v m' :=
  h.up fun _ _ _ _ _ _ _ _ _ _ _ _ _ _ _ _ _ _ J C L _ q => lv_if_eq C.1 C.2.1 hd ht (fun hn => absurd hn hc) (fun _ => q)
theorem r_icmp_ne_t {x y : Int32} {off : Int} {tgt : Nat} (hd : decode M.2.1 pc = .ok (.if_icmp .ne off, 3)) (ht : (pc : Int) + off = (tgt : Int)) (hc : ¬ x = y) (h : Run M tgt ls st m v m') : Run M pc ls (.int y :: .int x :: st) m v m' :=
  h.up fun _ _ _ _ _ _ _ _ _ _ _ _ _ _ _ _ _ _ J C L _ q => lv_icmp_ne C.1 C.2.1 hd ht (fun _ => q) (fun hn => absurd hn hc)
theorem r_icmp_ne_f {x y : Int32} {off : Int} (tgt : Nat) (hd : decode M.2.1 pc = .ok (.if_icmp .ne off, 3)) (ht : (pc : Int) + off = (tgt : Int)) (hc : x = y) (h : Run M (pc + 3) ls st m v m') : Run M pc ls (.int y :: .int x :: st) m v m' :=
  h.up fun _ _ _ _ _ _ _ _ _ _ _ _ _ _ _ _ _ _ J C L _ q => lv_icmp_ne C.1 C.2.1 hd ht (fun hn => absurd hc hn) (fun _ => q)
theorem r_if_ne_t {x : Int32} {off : Int} {tgt : Nat} (hd : decode M.2.1 pc = .ok (.ifCond .ne off, 3)) (ht : (pc : Int) + off = (tgt : Int)) (hc : ¬ x = 0) (h : Run M tgt ls st m v m') : Run M pc ls (.int x :: st) m v m' :=
  h.up fun _ _ _ _ _ _ _ _ _ _ _ _ _ _ _ _ _ _ J C L _ q => lv_if_ne C.1 C.2.1 hd ht (fun _ => q) (fun hn => absurd hn hc)
theorem r_if_ne_f {x : Int32} {off : Int} (tgt : Nat) (hd : decode M.2.1 pc = .ok (.ifCond .ne off, 3)) (ht : (pc : Int) + off = (tgt : Int)) (hc : x = 0) (h : Run M (pc + 3) ls st m v m') : Run M pc ls (.int x :: st) m v m' :=
  h.up fun _ _ _ _ _ _ _ _ _ _ _ _ _ _ _ _ _ _ J C L _ q => lv_if_ne C.1 C.2.1 hd ht (fun hn => absurd hc hn) (fun _ => q)
theorem r_icmp_lt_t {x y : Int32} {off : Int} {tgt : Nat} (hd : decode M.2.1 pc = .ok (.if_icmp .lt off, 3)) (ht : (pc : Int) + off = (tgt : Int)) (hc : x < y) (h : Run M tgt ls st m v m') : Run M pc ls (.int y :: .int x :: st) m v m' :=
  h.up fun _ _ _ _ _ _ _ _ _ _ _ _ _ _ _ _ _ _ J C L _ q => lv_icmp_lt C.1 C.2.1 hd ht (fun _ => q) (fun hn => absurd hc hn)
theorem r_icmp_lt_f {x y : Int32} {off : Int} (tgt : Nat) (hd : decode M.2.1 pc = .ok (.if_icmp .lt off, 3)) (ht : (pc : Int) + off = (tgt : Int)) (hc : ¬ x < y) (h : Run M (pc + 3) ls st m v m') : Run M pc ls (.int y :: .int x :: st) m v m' :=
  h.up fun _ _ _ _ _ _ _ _ _ _ _ _ _ _ _ _ _ _ J C L _ q => lv_icmp_lt C.1 C.2.1 hd ht (fun hn => absurd hn hc) (fun _ => q)
theorem r_if_lt_t {x : Int32} {off : Int} {tgt : Nat} (hd : decode M.2.1 pc = .ok (.ifCond .lt off, 3)) (ht : (pc : Int) + off = (tgt : Int)) (hc : x < 0) (h : Run M tgt ls st m v m') : Run M pc ls (.int x :: st) m v m' :=
  h.up fun _ _ _ _ _ _ _ _ _ _ _ _ _ _ _ _ _ _ J C L _ q => lv_if_lt C.1 C.2.1 hd ht (fun _ => q) (fun hn => absurd hc hn)
theorem r_if_lt_f {x : Int32} {off : Int} (tgt : Nat) (hd : decode M.2.1 pc = .ok (.ifCond .lt off, 3)) (ht : (pc : Int) + off = (tgt : Int)) (hc : ¬ x < 0) (h : Run M (pc + 3) ls st m v m') : Run M pc ls (.int x :: st) m v m' :=
  h.up fun _ _ _ _ _ _ _ _ _ _ _ _ _ _ _ _ _ _ J C L _ q => lv_if_lt C.1 C.2.1 hd ht (fun hn => absurd hn hc) (fun _ => q)
theorem r_icmp_ge_t {x y : Int32} {off : Int} {tgt : Nat} (hd : decode M.2.1 pc = .ok (.if_icmp .ge off, 3)) (ht : (pc : Int) + off = (tgt : Int)) (hc : y ≤ x) (h : Run M tgt ls st m v m') : Run M pc ls (.int y :: .int x :: st) m v m' :=
  h.up fun _ _ _ _ _ _ _ _ _ _ _ _ _ _ _ _ _ _ J C L _ q => lv_icmp_ge C.1 C.2.1 hd ht (fun _ => q) (fun hn => absurd hc hn)
theorem r_icmp_ge_f {x y : Int32} {off : Int} (tgt : Nat) (hd : decode M.2.1 pc = .ok (.if_icmp .ge off, 3)) (ht : (pc : Int) + off = (tgt : Int)) (hc : ¬ y ≤ x) (h : Run M (pc + 3) ls st m v m') : Run M pc ls (.int y :: .int x :: st) m v m' :=
  h.up fun _ _ _ _ _ _ _ _ _ _ _ _ _ _ _ _ _ _ J C L _ q => lv_icmp_ge C.1 C.2.1 hd ht (fun hn => absurd hn hc) (fun _ => q)
theorem r_if_ge_t {x : Int32} {off : Int} {tgt : Nat} (hd : decode M.2.1 pc = .ok (.ifCond .ge off, 3)) (ht : (pc : Int) + off = (tgt : Int)) (hc : 0 ≤ x) (h : Run M tgt ls st m v m') : Run M pc ls (.int x :: st) m v m' :=
  h.up fun _ _ _ _ _ _ _ _ _ _ _ _ _ _ _ _ _ _ J C L _ q => lv_if_ge C.1 C.2.1 hd ht (fun _ => q) (fun hn => absurd hc hn)
theorem r_if_ge_f {x : Int32} {off : Int} (tgt : Nat) (hd : decode M.2.1 pc = .ok (.ifCond .ge off, 3)) (ht : (pc : Int) + off = (tgt : Int)) (hc : ¬ 0 ≤ x) (h : Run M (pc + 3) ls st m v m') : Run M pc ls (.int x :: st) m v m' :=
  h.up fun _ _ _ _ _ _ _ _ _ _ _ _ _ _ _ _ _ _ J C L _ q => lv_if_ge C.1 C.2.1 hd ht (fun hn => absurd hn hc) (fun _ => q)
theorem r_icmp_gt_t {x y : Int32} {off : Int} {tgt : Nat} (hd : decode M.2.1 pc = .ok (.if_icmp .gt off, 3)) (ht : (pc : Int) + off = (tgt : Int)) (hc : y < x) (h : Run M tgt ls st m v m') : Run M pc ls (.int y :: .int x :: st) m v m' :=
  h.up fun _ _ _ _ _ _ _ _ _ _ _ _ _ _ _ _ _ _ J C L _ q => lv_icmp_gt C.1 C.2.1 hd ht (fun _ => q) (fun hn => absurd hc hn)
theorem r_icmp_gt_f {x y : Int32} {off : Int} (tgt : Nat) (hd : decode M.2.1 pc = .ok (.if_icmp .gt off, 3)) (ht : (pc : Int) + off = (tgt : Int)) (hc : ¬ y < x) (h : Run M (pc + 3) ls st m v m') : Run M pc ls (.int y :: .int x :: st) m v m' :=
  h.up fun _ _ _ _ _ _ _ _ _ _ _ _ _ _ _ _ _ _ J C L _ q => lv_icmp_gt C.1 C.2.1 hd ht (fun hn => absurd hn hc) (fun _ => q)
theorem r_if_gt_t {x : Int32} {off : Int} {tgt : Nat} (hd : decode M.2.1 pc = .ok (.ifCond .gt off, 3)) (ht : (pc : Int) + off = (tgt : Int)) (hc : 0 < x) (h : Run M tgt ls st m v m') : Run M pc ls (.int x :: st) m v m' :=
  h.up fun _ _ _ _ _ _ _ _ _ _ _ _ _ _ _ _ _ _ J C L _ q => lv_if_gt C.1 C.2.1 hd ht (fun _ => q) (fun hn => absurd hc hn)
theorem r_if_gt_f {x : Int32} {off : Int} (tgt : Nat) (hd : decode M.2.1 pc = .ok (.ifCond .gt off, 3)) (ht : (pc : Int) + off = (tgt : Int)) (hc : ¬ 0 < x) (h : Run M (pc + 3) ls st m v m') : Run M pc ls (.int x :: st) m v m' :=
  h.up fun _ _ _ _ _ _ _ _ _ _ _ _ _ _ _ _ _ _ J C L _ q => lv_if_gt C.1 C.2.1 hd ht (fun hn => absurd hn hc) (fun _ => q)
theorem r_icmp_le_t {x y : Int32} {off : Int} {tgt : Nat} (hd : decode M.2.1 pc = .ok (.if_icmp .le off, 3)) (ht : (pc : Int) + off = (tgt : Int)) (hc : x ≤ y) (h : Run M tgt ls st m v m') : Run M pc ls (.int y :: .int x :: st) m v m' :=
  h.up fun _ _ _ _ _ _ _ _ _ _ _ _ _ _ _ _ _ _ J C L _ q => lv_icmp_le C.1 C.2.1 hd ht (fun _ => q) (fun hn => absurd hc hn)
theorem r_icmp_le_f {x y : Int32} {off : Int} (tgt : Nat) (hd : decode M.2.1 pc = .ok (.if_icmp .le off, 3)) (ht : (pc : Int) + off = (tgt : Int)) (hc : ¬ x ≤ y) (h : Run M (pc + 3) ls st m v m') : Run M pc ls (.int y :: .int x :: st) m v m' :=
  h.up fun _ _ _ _ _ _ _ _ _ _ _ _ _ _ _ _ _ _ J C L _ q => lv_icmp_le C.1 C.2.1 hd ht (fun hn => absurd hn hc) (fun _ => q)
theorem r_if_le_t {x : Int32} {off : Int} {tgt : Nat} (hd : decode M.2.1 pc = .ok (.ifCond .le off, 3)) (ht : (pc : Int) + off = (tgt : Int)) (hc : x ≤ 0) (h : Run M tgt ls st m v m') : Run M pc ls (.int x :: st) m v m' :=
  h.up fun _ _ _ _ _ _ _ _ _ _ _ _ _ _ _ _ _ _ J C L _ q => lv_if_le C.1 C.2.1 hd ht (fun _ => q) (fun hn => absurd hc hn)
theorem r_if_le_f {x : Int32} {off : Int} (tgt : Nat) (hd : decode M.2.1 pc = .ok (.ifCond .le off, 3)) (ht : (pc : Int) + off = (tgt : Int)) (hc : ¬ x ≤ 0) (h : Run M (pc + 3) ls st m v m') : Run M pc ls (.int x :: st) m v m' :=
  h.up fun _ _ _ _ _ _ _ _ _ _ _ _ _ _ _ _ _ _ J C L _ q => lv_if_le C.1 C.2.1 hd ht (fun hn => absurd hn hc) (fun _ => q)
theorem r_goto {off : Int} {tgt : Nat} (hd : decode M.2.1 pc = .ok (.goto off, 3)) (ht : (pc : Int) + off = (tgt : Int)) (h : Run M tgt ls st m v m') : Run M pc ls st m v m' :=
  h.up fun _ _ _ _ _ _ _ _ _ _ _ _ _ _ _ _ _ _ J C L _ q => lv_goto C.1 C.2.1 hd ht q
theorem r_ifnull_t {off : Int} {tgt : Nat} (hd : decode M.2.1 pc = .ok (.ifnull off, 3)) (ht : (pc : Int) + off = (tgt : Int)) (h : Run M tgt ls st m v m') : Run M pc ls (.null :: st) m v m' :=
  h.up fun _ _ _ _ _ _ _ _ _ _ _ _ _ _ _ _ _ _ J C L _ q => lv_ifnullN C.1 C.2.1 hd ht q
theorem r_ifnull_f {off : Int} {a : Nat} (hd : decode M.2.1 pc = .ok (.ifnull off, 3)) (h : Run M (pc + 3) ls st m v m') : Run M pc ls (.ref a :: st) m v m' :=
  h.up fun _ _ _ _ _ _ _ _ _ _ _ _ _ _ _ _ _ _ J C L _ q => lv_ifnull C.1 C.2.1 hd q
theorem r_ifnonnull_f {off : Int} (hd : decode M.2.1 pc = .ok (.ifnonnull off, 3)) (h : Run M (pc + 3) ls st m v m') : Run M pc ls (.null :: st) m v m' :=
  h.up fun _ _ _ _ _ _ _ _ _ _ _ _ _ _ _ _ _ _ J C L _ q => lv_ifnonnullN C.1 C.2.1 hd q
theorem r_ifnonnull_t {off : Int} {tgt a : Nat} (hd : decode M.2.1 pc = .ok (.ifnonnull off, 3)) (ht : (pc : Int) + off = (tgt : Int)) (h : Run M tgt ls st m v m') : Run M pc ls (.ref a :: st) m v m' :=
  h.up fun _ _ _ _ _ _ _ _ _ _ _ _ _ _ _ _ _ _ J C L _ q => lv_ifnonnull C.1 C.2.1 hd ht q
theorem omap_inj {α : Nat → Nat} (J : ∀ i j, α i = α j → i = j) {a b : Option Nat} (h : a.map α = b.map α) : a = b := by
  cases a <;> cases b <;> simp at h ⊢
  exact J _ _ h
theorem r_acmp_eq_t {rx ry : Option Nat} {off : Int} {tgt : Nat} (hd : decode M.2.1 pc = .ok (.if_acmp .eq off, 3)) (ht : (pc : Int) + off = (tgt : Int)) (hc : rx = ry) (h : Run M tgt ls st m v m') : Run M pc ls (va_rf ry :: va_rf rx :: st) m v m' :=
  h.up fun _ _ _ _ _ _ _ _ _ _ _ _ _ _ _ _ _ _ J C L _ q => by
    simp only [List.map_cons, cv_rf] at q ⊢
    exact lv_acmp_eq C.1 C.2.1 hd ht (fun _ => q) (fun hn => absurd (by rw [hc]) hn)
theorem r_acmp_eq_f {rx ry : Option Nat} {off : Int} (tgt : Nat) (hd : decode M.2.1 pc = .ok (.if_acmp .eq off, 3)) (ht : (pc : Int) + off = (tgt : Int)) (hc : ¬ rx = ry) (h : Run M (pc + 3) ls st m v m') : Run M pc ls (va_rf ry :: va_rf rx :: st) m v m' :=
  h.up fun _ _ _ _ _ _ _ _ _ _ _ _ _ _ _ _ _ _ J C L _ q => by
    simp only [List.map_cons, cv_rf] at q ⊢
    exact lv_acmp_eq C.1 C.2.1 hd ht (fun hn => absurd (omap_inj J hn) hc) (fun _ => q)
theorem r_acmp_ne_t {rx ry : Option Nat} {off : Int} {tgt : Nat} (hd : decode M.2.1 pc = .ok (.if_acmp .ne off, 3)) (ht : (pc : Int) + off = (tgt : Int)) (hc : ¬ rx = ry) (h : Run M tgt ls st m v m') : Run M pc ls (va_rf ry :: va_rf rx :: st) m v m' :=
  h.up fun _ _ _ _ _ _ _ _ _ _ _ _ _ _ _ _ _ _ J C L _ q => by
    simp only [List.map_cons, cv_rf] at q ⊢
    exact lv_acmp_ne C.1 C.2.1 hd ht (fun _ => q) (fun hn => absurd (omap_inj J hn) hc)
theorem r_acmp_ne_f {rx ry : Option Nat} {off : Int} (tgt : Nat) (hd : decode M.2.1 pc = .ok (.if_acmp .ne off, 3)) (ht : (pc : Int) + off = (tgt : Int)) (hc : rx = ry) (h : Run M (pc + 3) ls st m v m') : Run M pc ls (va_rf ry :: va_rf rx :: st) m v m' :=
  h.up fun _ _ _ _ _ _ _ _ _ _ _ _ _ _ _ _ _ _ J C L _ q => by
    simp only [List.map_cons, cv_rf] at q ⊢
    exact lv_acmp_ne C.1 C.2.1 hd ht (fun hn => absurd (by rw [hc]) hn) (fun _ => q)
theorem r_tableOut {dflt lo hi : Int} {offs : Array Int} {len : Nat} {x : Int32} {tgt : Nat} (hd : decode M.2.1 pc = .ok (.tableswitch dflt lo hi offs, len)) (hc : x.toInt < lo ∨ hi < x.toInt) (ht : (pc : Int) + dflt = (tgt : Int)) (h : Run M tgt ls st m v m') : Run M pc ls (.int x :: st) m v m' :=
  h.up fun _ _ _ _ _ _ _ _ _ _ _ _ _ _ _ _ _ _ J C L _ q => lv_tableOut C.1 C.2.1 hd hc ht q
theorem r_tableIn {dflt lo hi : Int} {offs : Array Int} {len : Nat} {x : Int32} {off : Int} {tgt : Nat} (hd : decode M.2.1 pc = .ok (.tableswitch dflt lo hi offs, len)) (h1 : ¬ x.toInt < lo) (h2 : ¬ hi < x.toInt) (ho : offs[(x.toInt - lo).toNat]? = some off) (ht : (pc : Int) + off = (tgt : Int)) (h : Run M tgt ls st m v m') : Run M pc ls (.int x :: st) m v m' :=
  h.up fun _ _ _ _ _ _ _ _ _ _ _ _ _ _ _ _ _ _ J C L _ q => lv_tableIn C.1 C.2.1 hd h1 h2 ho ht q
theorem r_lookup {dflt : Int} {ps : Array (Int × Int)} {len : Nat} {x : Int32} {off : Int} {tgt : Nat} (hd : decode M.2.1 pc = .ok (.lookupswitch dflt ps, len)) (hp : (ps.toList.zip (ps.toList.drop 1)).all (fun (a, next) => a.1 < next.1) = true) (ho : Op.lookupswitch.offset ps.toList dflt x.toInt = off) (ht : (pc : Int) + off = (tgt : Int)) (h : Run M tgt ls st m v m') : Run M pc ls (.int x :: st) m v m' :=
  h.up fun _ _ _ _ _ _ _ _ _ _ _ _ _ _ _ _ _ _ J C L _ q => lv_lookup C.1 C.2.1 hd hp ho ht q
end Rows
section Stores
variable {M : MI} {pc : Nat} {ls ls2 : List (Nat × Value)} {st : List Value} {m m' : Mem} {v : Option Value}
def f1 (i : Nat) (ls : List (Nat × Value)) : List (Nat × Value) := ls.filter (fun q => !(q.1 == i) && !(q.1 + 1 == i && q.2.category == 2))
def f2 (i : Nat) (ls : List (Nat × Value)) : List (Nat × Value) := ls.filter (fun q => !(q.1 == i) && (!(q.1 == i + 1) && !(q.1 + 1 == i && q.2.category == 2)))
theorem lm_f1 (G : GG) (α : Nat → Nat) (i : Nat) (ls : List (Nat × Value)) : (lm G α ls).filter (fun q => !(q.1 == i) && !(q.1 + 1 == i && q.2.category == 2)) = lm G α (f1 i ls) := by
  simp only [lm, f1, List.filter_map, Function.comp_def, cv_cat]
theorem lm_f2 (G : GG) (α : Nat → Nat) (i : Nat) (ls : List (Nat × Value)) : (lm G α ls).filter (fun q => !(q.1 == i) && (!(q.1 == i + 1) && !(q.1 + 1 == i && q.2.category == 2))) = lm G α (f2 i ls) := by
  simp only [lm, f2, List.filter_map, Function.comp_def, cv_cat]
theorem r_istore {i : Nat} {x : Int32} (hd : decode M.2.1 pc = .ok (.istore i, 2)) (hn : i < M.2.2.1) (hl : (i, Value.int x) :: f1 i ls = ls2) (h : Run M (pc + 2) ls2 st m v m') : Run M pc ls (.int x :: st) m v m' := by
  subst hl
  refine ⟨h.1, h.2.1, fun G α p l e R s mid args below meth c H locs cells slots lsA kc ks B => ?_⟩
  refine lv_istore B.2.1.1 B.2.1.2.1 hd B.2.2.1 hn rfl (fun ls' hl' => h.2.2 G α p l e R s mid args below meth c H locs cells slots ls' kc ks ⟨B.1, B.2.1, ?_, B.2.2.2⟩)
  rw [lm_f1] at hl'
  exact hl'
theorem r_istore_n {k : Fin 4} {i : Nat} {x : Int32} (hd : decode M.2.1 pc = .ok (.istore_n k, 1)) (hi : (k : Nat) = i) (hn : i < M.2.2.1) (hl : (i, Value.int x) :: f1 i ls = ls2) (h : Run M (pc + 1) ls2 st m v m') : Run M pc ls (.int x :: st) m v m' := by
  subst hl
  refine ⟨h.1, h.2.1, fun G α p l e R s mid args below meth c H locs cells slots lsA kc ks B => ?_⟩
  refine lv_istore_n B.2.1.1 B.2.1.2.1 hd hi B.2.2.1 hn rfl (fun ls' hl' => h.2.2 G α p l e R s mid args below meth c H locs cells slots ls' kc ks ⟨B.1, B.2.1, ?_, B.2.2.2⟩)
  rw [lm_f1] at hl'
  exact hl'
theorem r_lstore {i : Nat} {x : Int64} (hd : decode M.2.1 pc = .ok (.lstore i, 2)) (hn : i + 1 < M.2.2.1) (hl : (i, Value.long x) :: f2 i ls = ls2) (h : Run M (pc + 2) ls2 st m v m') : Run M pc ls (.long x :: st) m v m' := by
  subst hl
  refine ⟨h.1, h.2.1, fun G α p l e R s mid args below meth c H locs cells slots lsA kc ks B => ?_⟩
  refine lv_lstore B.2.1.1 B.2.1.2.1 hd B.2.2.1 hn rfl (fun ls' hl' => h.2.2 G α p l e R s mid args below meth c H locs cells slots ls' kc ks ⟨B.1, B.2.1, ?_, B.2.2.2⟩)
  rw [lm_f2] at hl'
  exact hl'
theorem r_lstore_n {k : Fin 4} {i : Nat} {x : Int64} (hd : decode M.2.1 pc = .ok (.lstore_n k, 1)) (hi : (k : Nat) = i) (hn : i + 1 < M.2.2.1) (hl : (i, Value.long x) :: f2 i ls = ls2) (h : Run M (pc + 1) ls2 st m v m') : Run M pc ls (.long x :: st) m v m' := by
  subst hl
  refine ⟨h.1, h.2.1, fun G α p l e R s mid args below meth c H locs cells slots lsA kc ks B => ?_⟩
  refine lv_lstore_n B.2.1.1 B.2.1.2.1 hd hi B.2.2.1 hn rfl (fun ls' hl' => h.2.2 G α p l e R s mid args below meth c H locs cells slots ls' kc ks ⟨B.1, B.2.1, ?_, B.2.2.2⟩)
  rw [lm_f2] at hl'
  exact hl'
theorem r_astore {i : Nat} {o : Option Nat} (hd : decode M.2.1 pc = .ok (.astore i, 2)) (hn : i < M.2.2.1) (hl : (i, va_rf o) :: f1 i ls = ls2) (h : Run M (pc + 2) ls2 st m v m') : Run M pc ls (va_rf o :: st) m v m' := by
  subst hl
  refine ⟨h.1, h.2.1, fun G α p l e R s mid args below meth c H locs cells slots lsA kc ks B => ?_⟩
  cases o with
  | none =>
    refine lv_astoreN B.2.1.1 B.2.1.2.1 hd B.2.2.1 hn rfl (fun ls' hl' => h.2.2 G α p l e R s mid args below meth c H locs cells slots ls' kc ks ⟨B.1, B.2.1, ?_, B.2.2.2⟩)
    rw [lm_f1] at hl'
    exact hl'
  | some a =>
    refine lv_astore B.2.1.1 B.2.1.2.1 hd B.2.2.1 hn rfl (fun ls' hl' => h.2.2 G α p l e R s mid args below meth c H locs cells slots ls' kc ks ⟨B.1, B.2.1, ?_, B.2.2.2⟩)
    rw [lm_f1] at hl'
    exact hl'
theorem r_astore_n {k : Fin 4} {i : Nat} {o : Option Nat} (hd : decode M.2.1 pc = .ok (.astore_n k, 1)) (hi : (k : Nat) = i) (hn : i < M.2.2.1) (hl : (i, va_rf o) :: f1 i ls = ls2) (h : Run M (pc + 1) ls2 st m v m') : Run M pc ls (va_rf o :: st) m v m' := by
  subst hl
  refine ⟨h.1, h.2.1, fun G α p l e R s mid args below meth c H locs cells slots lsA kc ks B => ?_⟩
  cases o with
  | none =>
    refine lv_astore_nN B.2.1.1 B.2.1.2.1 hd hi B.2.2.1 hn rfl (fun ls' hl' => h.2.2 G α p l e R s mid args below meth c H locs cells slots ls' kc ks ⟨B.1, B.2.1, ?_, B.2.2.2⟩)
    rw [lm_f1] at hl'
    exact hl'
  | some a =>
    refine lv_astore_n B.2.1.1 B.2.1.2.1 hd hi B.2.2.1 hn rfl (fun ls' hl' => h.2.2 G α p l e R s mid args below meth c H locs cells slots ls' kc ks ⟨B.1, B.2.1, ?_, B.2.2.2⟩)
    rw [lm_f1] at hl'
    exact hl'
theorem r_iinc {k i : Nat} {n : Int} {x y : Int32} (hd : decode M.2.1 pc = .ok (.iinc i n, 3)) (hk : ls[k]? = some (i, .int x)) (hv : x + Int32.ofInt n = y) (hn : i < M.2.2.1) (hl : (i, Value.int y) :: f1 i ls = ls2) (h : Run M (pc + 3) ls2 st m v m') : Run M pc ls st m v m' := by
  subst hl
  refine ⟨h.1, h.2.1, fun G α p l e R s mid args below meth c H locs cells slots lsA kc ks B => ?_⟩
  refine lv_iinc (k := k) B.2.1.1 B.2.1.2.1 hd B.2.2.1 (by simp [lm, hk]; rfl) hv hn rfl (fun ls' hl' => h.2.2 G α p l e R s mid args below meth c H locs cells slots ls' kc ks ⟨B.1, B.2.1, ?_, B.2.2.2⟩)
  rw [lm_f1] at hl'
  exact hl'
end Stores
