/-! what the printed functions are made of, and rows that take a new memory by its name -/
def FU : Nat := 100000
def gd {β : Type} (b : Bool) (k : Option β) : Option β := if b = true then k else none
def gz {β : Type} (x : Int32) (k : Option β) : Option β := if x = 0 ∨ x = 1 then k else none
def gn {β : Type} (x : Int32) (k : Option β) : Option β := if x = 0 then none else k
def gnl {β : Type} (x : Int64) (k : Option β) : Option β := if x = 0 then none else k
def gt {β : Type} (m : Mem) (a t : Nat) (k : Option β) : Option β := if mT m a = t then k else none
def gs {β : Type} (o : Option Nat) (k : Nat → Option β) : Option β := match o with
  | some a => k a
  | none => none
def go {β : Type} (m : Mem) (o : Option Nat) (t : Nat) (k : Option β) : Option β := match o with
  | some a => if mT m a = t then k else none
  | none => k
def vb {γ β : Type} (x : γ) (k : γ → Option β) : Option β := k x
def bp {ρ β : Type} (x : Option ρ) (k : ρ → Option β) : Option β := match x with
  | some r => k r
  | none => none
def bn {ρ β : Type} (x : Option (ρ × Mem)) (k : ρ → Mem → Option β) : Option β := match x with
  | some r => k r.1 r.2
  | none => none
theorem gd_some {β : Type} {b : Bool} {k : Option β} {r : β} (h : gd b k = some r) : b = true ∧ k = some r := by
  unfold gd at h
  by_cases q : b = true
  · rw [if_pos q] at h; exact ⟨q, h⟩
  · rw [if_neg q] at h; cases h
theorem gz_some {β : Type} {x : Int32} {k : Option β} {r : β} (h : gz x k = some r) : (x = 0 ∨ x = 1) ∧ k = some r := by
  unfold gz at h
  by_cases q : x = 0 ∨ x = 1
  · rw [if_pos q] at h; exact ⟨q, h⟩
  · rw [if_neg q] at h; cases h
theorem gn_some {β : Type} {x : Int32} {k : Option β} {r : β} (h : gn x k = some r) : ¬ x = 0 ∧ k = some r := by
  unfold gn at h
  by_cases q : x = 0
  · rw [if_pos q] at h; cases h
  · rw [if_neg q] at h; exact ⟨q, h⟩
theorem gnl_some {β : Type} {x : Int64} {k : Option β} {r : β} (h : gnl x k = some r) : ¬ x = 0 ∧ k = some r := by
  unfold gnl at h
  by_cases q : x = 0
  · rw [if_pos q] at h; cases h
  · rw [if_neg q] at h; exact ⟨q, h⟩
theorem gt_some {β : Type} {m : Mem} {a t : Nat} {k : Option β} {r : β} (h : gt m a t k = some r) : mT m a = t ∧ k = some r := by
  unfold gt at h
  by_cases q : mT m a = t
  · rw [if_pos q] at h; exact ⟨q, h⟩
  · rw [if_neg q] at h; cases h
theorem gs_some {β : Type} {o : Option Nat} {k : Nat → Option β} {r : β} (h : gs o k = some r) : ∃ a, o = some a ∧ k a = some r := by
  cases o with
  | none => cases h
  | some a => exact ⟨a, rfl, h⟩
theorem go_some {β : Type} {m : Mem} {o : Option Nat} {t : Nat} {k : Option β} {r : β} (h : go m o t k = some r) : (∀ b, o = some b → mT m b = t) ∧ k = some r := by
  cases o with
  | none => exact ⟨fun b hb => (by cases hb), h⟩
  | some a =>
    have h : (if mT m a = t then k else none) = some r := h
    by_cases q : mT m a = t
    · rw [if_pos q] at h; exact ⟨fun b hb => by cases hb; exact q, h⟩
    · rw [if_neg q] at h; cases h
theorem vb_some {γ β : Type} {x : γ} {k : γ → Option β} {r : β} (h : vb x k = some r) : ∃ y, y = x ∧ k y = some r := ⟨x, rfl, h⟩
theorem bp_some {ρ β : Type} {x : Option ρ} {k : ρ → Option β} {r : β} (h : bp x k = some r) : ∃ y, x = some y ∧ k y = some r := by
  cases x with
  | none => cases h
  | some y => exact ⟨y, rfl, h⟩
theorem bn_some {ρ β : Type} {x : Option (ρ × Mem)} {k : ρ → Mem → Option β} {r : β} (h : bn x k = some r) : ∃ y m1, x = some (y, m1) ∧ k y m1 = some r := by
  cases x with
  | none => cases h
  | some y => exact ⟨y.1, y.2, rfl, h⟩
theorem ite_some {β : Type} {c : Prop} [Decidable c] {A B : Option β} {r : β} (h : (if c then A else B) = some r) : (c ∧ A = some r) ∨ (¬ c ∧ B = some r) := by
  by_cases q : c
  · rw [if_pos q] at h; exact Or.inl ⟨q, h⟩
  · rw [if_neg q] at h; exact Or.inr ⟨q, h⟩
section Primed
variable {M : MI} {pc : Nat} {ls ls2 : List (Nat × Value)} {st : List Value} {m m1 m' : Mem} {v : Option Value} {idx fid ci kd a : Nat}
theorem p_putI {x : Int32} (hm : m1 = sI m fid a x) (hd : decode M.2.1 pc = .ok (.putfield idx, 3)) (hl : lkP M.1.cls M.1.name idx fid ci 0) (ht : mT m a = ci + 1) (h : Run M (pc + 3) ls st m1 v m') : Run M pc ls (.int x :: .ref a :: st) m v m' := r_putI hd hl ht (by rw [← hm]; exact h)
theorem p_putZ {x : Int32} (hm : m1 = sI m fid a x) (hz : x = 0 ∨ x = 1) (hd : decode M.2.1 pc = .ok (.putfield idx, 3)) (hl : lkP M.1.cls M.1.name idx fid ci 3) (ht : mT m a = ci + 1) (h : Run M (pc + 3) ls st m1 v m') : Run M pc ls (.int x :: .ref a :: st) m v m' := r_putZ hz hd hl ht (by rw [← hm]; exact h)
theorem p_putL {x : Int64} (hm : m1 = sL m fid a x) (hd : decode M.2.1 pc = .ok (.putfield idx, 3)) (hl : lkP M.1.cls M.1.name idx fid ci 1) (ht : mT m a = ci + 1) (h : Run M (pc + 3) ls st m1 v m') : Run M pc ls (.long x :: .ref a :: st) m v m' := r_putL hd hl ht (by rw [← hm]; exact h)
theorem p_putR {o : Option Nat} (hm : m1 = sR m fid a o) (hd : decode M.2.1 pc = .ok (.putfield idx, 3)) (hl : lkP M.1.cls M.1.name idx fid ci 2) (ht : mT m a = ci + 1) (h : Run M (pc + 3) ls st m1 v m') : Run M pc ls (va_rf o :: .ref a :: st) m v m' := r_putR hd hl ht (by rw [← hm]; exact h)
theorem p_putr {b : Nat} (hm : m1 = sR m fid a (some b)) (hd : decode M.2.1 pc = .ok (.putfield idx, 3)) (hl : lkP M.1.cls M.1.name idx fid ci 2) (ht : mT m a = ci + 1) (h : Run M (pc + 3) ls st m1 v m') : Run M pc ls (.ref b :: .ref a :: st) m v m' := r_putR (o := some b) hd hl ht (by rw [← hm]; exact h)
theorem p_putn (hm : m1 = sR m fid a none) (hd : decode M.2.1 pc = .ok (.putfield idx, 3)) (hl : lkP M.1.cls M.1.name idx fid ci 2) (ht : mT m a = ci + 1) (h : Run M (pc + 3) ls st m1 v m') : Run M pc ls (.null :: .ref a :: st) m v m' := r_putR (o := none) hd hl ht (by rw [← hm]; exact h)
theorem p_iast {i x : Int32} {n : Nat} (hm : m1 = wI m a (ix i) x) (hd : decode M.2.1 pc = .ok (.iastore, 1)) (ht : mT m a = 32) (hn : mN m a = n) (hi : inb i n = true) (h : Run M (pc + 1) ls st m1 v m') : Run M pc ls (.int x :: .int i :: .ref a :: st) m v m' := r_iast hd ht (by rw [hn]; exact hi) (by rw [← hm]; exact h)
theorem p_bast {i x : Int32} {n : Nat} (hm : m1 = wI m a (ix i) x.toInt8.toInt32) (hd : decode M.2.1 pc = .ok (.bastore, 1)) (ht : mT m a = 33) (hn : mN m a = n) (hi : inb i n = true) (h : Run M (pc + 1) ls st m1 v m') : Run M pc ls (.int x :: .int i :: .ref a :: st) m v m' := r_bast hd ht (by rw [hn]; exact hi) (by rw [← hm]; exact h)
theorem p_zast {i x : Int32} {n : Nat} (hm : m1 = wI m a (ix i) x) (hz : x = 0 ∨ x = 1) (hd : decode M.2.1 pc = .ok (.bastore, 1)) (ht : mT m a = 34) (hn : mN m a = n) (hi : inb i n = true) (h : Run M (pc + 1) ls st m1 v m') : Run M pc ls (.int x :: .int i :: .ref a :: st) m v m' := r_zast hz hd ht (by rw [hn]; exact hi) (by rw [← hm]; exact h)
theorem p_last {i : Int32} {x : Int64} {n : Nat} (hm : m1 = wL m a (ix i) x) (hd : decode M.2.1 pc = .ok (.lastore, 1)) (ht : mT m a = 35) (hn : mN m a = n) (hi : inb i n = true) (h : Run M (pc + 1) ls st m1 v m') : Run M pc ls (.long x :: .int i :: .ref a :: st) m v m' := r_last hd ht (by rw [hn]; exact hi) (by rw [← hm]; exact h)
theorem p_aast {j : Nat} (hj : j < 3) {i : Int32} {o : Option Nat} {n : Nat} (hm : m1 = wR m a (ix i) o) (hd : decode M.2.1 pc = .ok (.aastore, 1)) (ht : mT m a = 36 + j) (hn : mN m a = n) (hi : inb i n = true) (ho : ∀ b, o = some b → mT m b = cmp_of j + 1) (h : Run M (pc + 1) ls st m1 v m') : Run M pc ls (va_rf o :: .int i :: .ref a :: st) m v m' := r_aast hj hd ht (by rw [hn]; exact hi) ho (by rw [← hm]; exact h)
theorem p_aastr {j : Nat} (hj : j < 3) {i : Int32} {b n : Nat} (hm : m1 = wR m a (ix i) (some b)) (hd : decode M.2.1 pc = .ok (.aastore, 1)) (ht : mT m a = 36 + j) (hn : mN m a = n) (hi : inb i n = true) (ho : mT m b = cmp_of j + 1) (h : Run M (pc + 1) ls st m1 v m') : Run M pc ls (.ref b :: .int i :: .ref a :: st) m v m' := r_aast (o := some b) hj hd ht (by rw [hn]; exact hi) (fun c hc => by cases hc; exact ho) (by rw [← hm]; exact h)
theorem p_aastn {j : Nat} (hj : j < 3) {i : Int32} {n : Nat} (hm : m1 = wR m a (ix i) none) (hd : decode M.2.1 pc = .ok (.aastore, 1)) (ht : mT m a = 36 + j) (hn : mN m a = n) (hi : inb i n = true) (h : Run M (pc + 1) ls st m1 v m') : Run M pc ls (.null :: .int i :: .ref a :: st) m v m' := r_aast (o := none) hj hd ht (by rw [hn]; exact hi) (fun c hc => by cases hc) (by rw [← hm]; exact h)
theorem p_iald {i : Int32} {n : Nat} (hd : decode M.2.1 pc = .ok (.iaload, 1)) (ht : mT m a = 32) (hn : mN m a = n) (hi : inb i n = true) (h : Run M (pc + 1) ls (.int (aI m a (ix i)) :: st) m v m') : Run M pc ls (.int i :: .ref a :: st) m v m' := r_iald hd ht (by rw [hn]; exact hi) h
theorem p_bald {i : Int32} {n : Nat} (hd : decode M.2.1 pc = .ok (.baload, 1)) (ht : mT m a = 33) (hn : mN m a = n) (hi : inb i n = true) (h : Run M (pc + 1) ls (.int (aI m a (ix i)) :: st) m v m') : Run M pc ls (.int i :: .ref a :: st) m v m' := r_bald hd ht (by rw [hn]; exact hi) h
theorem p_zald {i : Int32} {n : Nat} (hd : decode M.2.1 pc = .ok (.baload, 1)) (ht : mT m a = 34) (hn : mN m a = n) (hi : inb i n = true) (h : Run M (pc + 1) ls (.int (aI m a (ix i)) :: st) m v m') : Run M pc ls (.int i :: .ref a :: st) m v m' := r_zald hd ht (by rw [hn]; exact hi) h
theorem p_lald {i : Int32} {n : Nat} (hd : decode M.2.1 pc = .ok (.laload, 1)) (ht : mT m a = 35) (hn : mN m a = n) (hi : inb i n = true) (h : Run M (pc + 1) ls (.long (aL m a (ix i)) :: st) m v m') : Run M pc ls (.int i :: .ref a :: st) m v m' := r_lald hd ht (by rw [hn]; exact hi) h
theorem p_aald {j : Nat} (hj : j < 3) {i : Int32} {n : Nat} (hd : decode M.2.1 pc = .ok (.aaload, 1)) (ht : mT m a = 36 + j) (hn : mN m a = n) (hi : inb i n = true) (h : Run M (pc + 1) ls (va_rf (aR m a (ix i)) :: st) m v m') : Run M pc ls (.int i :: .ref a :: st) m v m' := r_aald hj hd ht (by rw [hn]; exact hi) h
theorem p_aaldr {j : Nat} (hj : j < 3) {i : Int32} {n b : Nat} (ho : aR m a (ix i) = some b) (hd : decode M.2.1 pc = .ok (.aaload, 1)) (ht : mT m a = 36 + j) (hn : mN m a = n) (hi : inb i n = true) (h : Run M (pc + 1) ls (.ref b :: st) m v m') : Run M pc ls (.int i :: .ref a :: st) m v m' := r_aald hj hd ht (by rw [hn]; exact hi) (by rw [ho]; exact h)
theorem p_alen {n : Nat} {x : Int32} (hd : decode M.2.1 pc = .ok (.arraylength, 1)) (ht : 32 ≤ mT m a ∧ mT m a < 39) (hn : mN m a = n) (hx : Int32.ofNat n = x) (h : Run M (pc + 1) ls (.int x :: st) m v m') : Run M pc ls (.ref a :: st) m v m' := r_alen hd ht (by rw [hn, hx]; exact h)
theorem p_getr {b : Nat} (ho : mR m fid a = some b) (hd : decode M.2.1 pc = .ok (.getfield idx, 3)) (hl : lkG M.1.cls idx fid ci 2) (ht : mT m a = ci + 1) (h : Run M (pc + 3) ls (.ref b :: st) m v m') : Run M pc ls (.ref a :: st) m v m' := r_getR hd hl ht ho h
theorem p_getR (hd : decode M.2.1 pc = .ok (.getfield idx, 3)) (hl : lkG M.1.cls idx fid ci 2) (ht : mT m a = ci + 1) (h : Run M (pc + 3) ls (va_rf (mR m fid a) :: st) m v m') : Run M pc ls (.ref a :: st) m v m' := r_getR hd hl ht rfl h
theorem p_aload {k i b : Nat} (hd : decode M.2.1 pc = .ok (.aload i, 2)) (hk : ls[k]? = some (i, .ref b)) (h : Run M (pc + 2) ls (.ref b :: st) m v m') : Run M pc ls st m v m' := r_aload (o := some b) hd hk h
theorem p_aload_n {n : Fin 4} {k i b : Nat} (hd : decode M.2.1 pc = .ok (.aload_n n, 1)) (hi : (n : Nat) = i) (hk : ls[k]? = some (i, .ref b)) (h : Run M (pc + 1) ls (.ref b :: st) m v m') : Run M pc ls st m v m' := r_aload_n (o := some b) hd hi hk h
theorem d_aload {k i b : Nat} {o : Option Nat} (ho : o = some b) (hd : decode M.2.1 pc = .ok (.aload i, 2)) (hk : ls[k]? = some (i, va_rf o)) (h : Run M (pc + 2) ls (.ref b :: st) m v m') : Run M pc ls st m v m' := by subst ho; exact p_aload hd hk h
theorem d_aload_n {n : Fin 4} {k i b : Nat} {o : Option Nat} (ho : o = some b) (hd : decode M.2.1 pc = .ok (.aload_n n, 1)) (hi : (n : Nat) = i) (hk : ls[k]? = some (i, va_rf o)) (h : Run M (pc + 1) ls (.ref b :: st) m v m') : Run M pc ls st m v m' := by subst ho; exact p_aload_n hd hi hk h
theorem p_astore {i b : Nat} (hd : decode M.2.1 pc = .ok (.astore i, 2)) (hn : i < M.2.2.1) (hl : (i, Value.ref b) :: f1 i ls = ls2) (h : Run M (pc + 2) ls2 st m v m') : Run M pc ls (.ref b :: st) m v m' := r_astore (o := some b) hd hn hl h
theorem p_astore_n {n : Fin 4} {i b : Nat} (hd : decode M.2.1 pc = .ok (.astore_n n, 1)) (hi : (n : Nat) = i) (hn : i < M.2.2.1) (hl : (i, Value.ref b) :: f1 i ls = ls2) (h : Run M (pc + 1) ls2 st m v m') : Run M pc ls (.ref b :: st) m v m' := r_astore_n (o := some b) hd hi hn hl h
theorem n_astore {i : Nat} (hd : decode M.2.1 pc = .ok (.astore i, 2)) (hn : i < M.2.2.1) (hl : (i, Value.null) :: f1 i ls = ls2) (h : Run M (pc + 2) ls2 st m v m') : Run M pc ls (.null :: st) m v m' := r_astore (o := none) hd hn hl h
theorem n_astore_n {n : Fin 4} {i : Nat} (hd : decode M.2.1 pc = .ok (.astore_n n, 1)) (hi : (n : Nat) = i) (hn : i < M.2.2.1) (hl : (i, Value.null) :: f1 i ls = ls2) (h : Run M (pc + 1) ls2 st m v m') : Run M pc ls (.null :: st) m v m' := r_astore_n (o := none) hd hi hn hl h
theorem e_istore {i : Nat} {x y : Int32} (hy : y = x) (hd : decode M.2.1 pc = .ok (.istore i, 2)) (hn : i < M.2.2.1) (hl : (i, Value.int y) :: f1 i ls = ls2) (h : Run M (pc + 2) ls2 st m v m') : Run M pc ls (.int x :: st) m v m' := by subst hy; exact r_istore hd hn hl h
theorem e_istore_n {n : Fin 4} {i : Nat} {x y : Int32} (hy : y = x) (hd : decode M.2.1 pc = .ok (.istore_n n, 1)) (hi : (n : Nat) = i) (hn : i < M.2.2.1) (hl : (i, Value.int y) :: f1 i ls = ls2) (h : Run M (pc + 1) ls2 st m v m') : Run M pc ls (.int x :: st) m v m' := by subst hy; exact r_istore_n hd hi hn hl h
theorem e_lstore {i : Nat} {x y : Int64} (hy : y = x) (hd : decode M.2.1 pc = .ok (.lstore i, 2)) (hn : i + 1 < M.2.2.1) (hl : (i, Value.long y) :: f2 i ls = ls2) (h : Run M (pc + 2) ls2 st m v m') : Run M pc ls (.long x :: st) m v m' := by subst hy; exact r_lstore hd hn hl h
theorem e_lstore_n {n : Fin 4} {i : Nat} {x y : Int64} (hy : y = x) (hd : decode M.2.1 pc = .ok (.lstore_n n, 1)) (hi : (n : Nat) = i) (hn : i + 1 < M.2.2.1) (hl : (i, Value.long y) :: f2 i ls = ls2) (h : Run M (pc + 1) ls2 st m v m') : Run M pc ls (.long x :: st) m v m' := by subst hy; exact r_lstore_n hd hi hn hl h
theorem e_iinc {k i : Nat} {n : Int} {x y z : Int32} (hy : y = x + z) (hz : Int32.ofInt n = z) (hd : decode M.2.1 pc = .ok (.iinc i n, 3)) (hk : ls[k]? = some (i, .int x)) (hn : i < M.2.2.1) (hl : (i, Value.int y) :: f1 i ls = ls2) (h : Run M (pc + 3) ls2 st m v m') : Run M pc ls st m v m' := r_iinc hd hk (by rw [hz, hy]) hn hl h
theorem d_ifnull_t {off : Int} {tgt : Nat} {o : Option Nat} (ho : o = none) (hd : decode M.2.1 pc = .ok (.ifnull off, 3)) (ht : (pc : Int) + off = (tgt : Int)) (h : Run M tgt ls st m v m') : Run M pc ls (va_rf o :: st) m v m' := by subst ho; exact r_ifnull_t hd ht h
theorem d_ifnull_f {off : Int} {o : Option Nat} (ho : ¬ o = none) (hd : decode M.2.1 pc = .ok (.ifnull off, 3)) (h : Run M (pc + 3) ls st m v m') : Run M pc ls (va_rf o :: st) m v m' := by
  cases o with
  | none => exact absurd rfl ho
  | some a => exact r_ifnull_f hd h
theorem d_ifnonnull_t {off : Int} {tgt : Nat} {o : Option Nat} (ho : ¬ o = none) (hd : decode M.2.1 pc = .ok (.ifnonnull off, 3)) (ht : (pc : Int) + off = (tgt : Int)) (h : Run M tgt ls st m v m') : Run M pc ls (va_rf o :: st) m v m' := by
  cases o with
  | none => exact absurd rfl ho
  | some a => exact r_ifnonnull_t hd ht h
theorem d_ifnonnull_f {off : Int} {o : Option Nat} (ho : o = none) (hd : decode M.2.1 pc = .ok (.ifnonnull off, 3)) (h : Run M (pc + 3) ls st m v m') : Run M pc ls (va_rf o :: st) m v m' := by subst ho; exact r_ifnonnull_f hd h
theorem p_newI {i : Int32} (hm : m1 = nw m 32 (ix i) (ix i)) (hd : decode M.2.1 pc = .ok (.newarray .int, 2)) (hw : Cond.arrayClass .int ∈ g_tbl) (hn : inb i 65536 = true) (h : Run M (pc + 2) ls (.ref (mC m) :: st) m1 v m') : Run M pc ls (.int i :: st) m v m' := r_newI hd hw hn (by rw [← hm]; exact h)
theorem p_newB {i : Int32} (hm : m1 = nw m 33 (ix i) (ix i)) (hd : decode M.2.1 pc = .ok (.newarray .byte, 2)) (hw : Cond.arrayClass .byte ∈ g_tbl) (hn : inb i 65536 = true) (h : Run M (pc + 2) ls (.ref (mC m) :: st) m1 v m') : Run M pc ls (.int i :: st) m v m' := r_newB hd hw hn (by rw [← hm]; exact h)
theorem p_newZ {i : Int32} (hm : m1 = nw m 34 (ix i) (ix i)) (hd : decode M.2.1 pc = .ok (.newarray .boolean, 2)) (hw : Cond.arrayClass .boolean ∈ g_tbl) (hn : inb i 65536 = true) (h : Run M (pc + 2) ls (.ref (mC m) :: st) m1 v m') : Run M pc ls (.int i :: st) m v m' := r_newZ hd hw hn (by rw [← hm]; exact h)
theorem p_newL {i : Int32} (hm : m1 = nw m 35 (ix i) (ix i)) (hd : decode M.2.1 pc = .ok (.newarray .long, 2)) (hw : Cond.arrayClass .long ∈ g_tbl) (hn : inb i 65536 = true) (h : Run M (pc + 2) ls (.ref (mC m) :: st) m1 v m') : Run M pc ls (.int i :: st) m v m' := r_newL hd hw hn (by rw [← hm]; exact h)
theorem p_newR {i : Int32} {j : Nat} {C0 : String} (hm : m1 = nw m (36 + j) (ix i) (ix i)) (hj : (j = 0 ∧ C0 = q_R2) ∨ (j = 1 ∧ C0 = q_R10) ∨ (j = 2 ∧ C0 = q_R0)) (hd : decode M.2.1 pc = .ok (.anewarray idx, 3)) (hw : Cond.classLink M.1.cls idx C0 ∈ g_tbl) (hn : inb i 65536 = true) (h : Run M (pc + 3) ls (.ref (mC m) :: st) m1 v m') : Run M pc ls (.int i :: st) m v m' := r_newR hj hd hw hn (by rw [← hm]; exact h)
theorem p_new {N : Nat} (hm : m1 = nw m (ci + 1) 0 N) (hd : decode M.2.1 pc = .ok (.new idx, 3)) (hl : lkN M.1.cls idx ci N) (h : Run M (pc + 3) ls (.ref (mC m) :: st) m1 v m') : Run M pc ls st m v m' := r_new hd hl (by rw [← hm]; exact h)
theorem tab_out {x : Int32} (lo : Int) (n : Nat) (h1 : -2147483648 ≤ lo) (h2 : lo + n ≤ 2147483648) (h : ∀ k : Nat, k < n → ¬ x = Int32.ofInt (lo + k)) : x.toInt < lo ∨ lo + n - 1 < x.toInt := by
  by_cases q : x.toInt < lo
  · exact Or.inl q
  · refine Or.inr (Int.not_le.mp fun z => ?_)
    refine h (x.toInt - lo).toNat (by omega) ?_
    rw [show lo + ((x.toInt - lo).toNat : Int) = x.toInt by omega]
    exact (Int32.ofInt_toInt x).symm
end Primed
theorem lk_cons {x : Int32} {a o d : Int} {r : List (Int × Int)} (h : ¬ x = Int32.ofInt a) (hr : Op.lookupswitch.offset r d x.toInt = d) : Op.lookupswitch.offset ((a, o) :: r) d x.toInt = d := by
  rw [Op.lookupswitch.offset_cons, if_neg (fun z => h (by rw [z]; exact (Int32.ofInt_toInt x).symm))]
  exact hr
