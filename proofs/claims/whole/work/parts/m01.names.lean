/-! names, fields: written by gen/names.py out of the tables -/
def g_tbl : List Cond := lw_tbl.filter goodWord
theorem g_mem {i : Nat} {w : Cond} (h : lw_tbl[i]? = some w) (g : goodWord w = true) : w ∈ g_tbl := List.mem_filter.mpr ⟨List.mem_of_getElem? h, g⟩
theorem gb_1 {i : Nat} {w : Cond} (h : tables_1_1[i]? = some w) (g : goodWord w = true) : w ∈ g_tbl := by
  have h := List.mem_of_getElem? h
  have h2 : w ∈ tables_1 := List.mem_append_left _ h
  exact List.mem_filter.mpr ⟨List.mem_append_right _ h2, g⟩
theorem gb_2 {i : Nat} {w : Cond} (h : tables_1_2[i]? = some w) (g : goodWord w = true) : w ∈ g_tbl := by
  have h := List.mem_of_getElem? h
  have h2 : w ∈ tables_1 := List.mem_append_right _ (List.mem_append_left _ h)
  exact List.mem_filter.mpr ⟨List.mem_append_right _ h2, g⟩
theorem gb_3 {i : Nat} {w : Cond} (h : tables_1_3[i]? = some w) (g : goodWord w = true) : w ∈ g_tbl := by
  have h := List.mem_of_getElem? h
  have h2 : w ∈ tables_1 := List.mem_append_right _ (List.mem_append_right _ (List.mem_append_left _ h))
  exact List.mem_filter.mpr ⟨List.mem_append_right _ h2, g⟩
theorem gb_4 {i : Nat} {w : Cond} (h : tables_1_4[i]? = some w) (g : goodWord w = true) : w ∈ g_tbl := by
  have h := List.mem_of_getElem? h
  have h2 : w ∈ tables_1 := List.mem_append_right _ (List.mem_append_right _ (List.mem_append_right _ (List.mem_append_left _ h)))
  exact List.mem_filter.mpr ⟨List.mem_append_right _ h2, g⟩
theorem gb_5 {i : Nat} {w : Cond} (h : tables_1_5[i]? = some w) (g : goodWord w = true) : w ∈ g_tbl := by
  have h := List.mem_of_getElem? h
  have h2 : w ∈ tables_1 := List.mem_append_right _ (List.mem_append_right _ (List.mem_append_right _ (List.mem_append_right _ (List.mem_append_left _ h))))
  exact List.mem_filter.mpr ⟨List.mem_append_right _ h2, g⟩
theorem gb_6 {i : Nat} {w : Cond} (h : tables_1_6[i]? = some w) (g : goodWord w = true) : w ∈ g_tbl := by
  have h := List.mem_of_getElem? h
  have h2 : w ∈ tables_1 := List.mem_append_right _ (List.mem_append_right _ (List.mem_append_right _ (List.mem_append_right _ (List.mem_append_right _ (List.mem_append_left _ h)))))
  exact List.mem_filter.mpr ⟨List.mem_append_right _ h2, g⟩
theorem gb_7 {i : Nat} {w : Cond} (h : tables_1_7[i]? = some w) (g : goodWord w = true) : w ∈ g_tbl := by
  have h := List.mem_of_getElem? h
  have h2 : w ∈ tables_1 := List.mem_append_right _ (List.mem_append_right _ (List.mem_append_right _ (List.mem_append_right _ (List.mem_append_right _ (List.mem_append_right _ (List.mem_append_left _ h))))))
  exact List.mem_filter.mpr ⟨List.mem_append_right _ h2, g⟩
theorem gb_8 {i : Nat} {w : Cond} (h : tables_1_8[i]? = some w) (g : goodWord w = true) : w ∈ g_tbl := by
  have h := List.mem_of_getElem? h
  have h2 : w ∈ tables_1 := List.mem_append_right _ (List.mem_append_right _ (List.mem_append_right _ (List.mem_append_right _ (List.mem_append_right _ (List.mem_append_right _ (List.mem_append_right _ (List.mem_append_left _ h)))))))
  exact List.mem_filter.mpr ⟨List.mem_append_right _ h2, g⟩
theorem gb_9 {i : Nat} {w : Cond} (h : tables_1_9[i]? = some w) (g : goodWord w = true) : w ∈ g_tbl := by
  have h := List.mem_of_getElem? h
  have h2 : w ∈ tables_1 := List.mem_append_right _ (List.mem_append_right _ (List.mem_append_right _ (List.mem_append_right _ (List.mem_append_right _ (List.mem_append_right _ (List.mem_append_right _ (List.mem_append_right _ (List.mem_append_left _ h))))))))
  exact List.mem_filter.mpr ⟨List.mem_append_right _ h2, g⟩
theorem gb_10 {i : Nat} {w : Cond} (h : tables_1_10[i]? = some w) (g : goodWord w = true) : w ∈ g_tbl := by
  have h := List.mem_of_getElem? h
  have h2 : w ∈ tables_1 := List.mem_append_right _ (List.mem_append_right _ (List.mem_append_right _ (List.mem_append_right _ (List.mem_append_right _ (List.mem_append_right _ (List.mem_append_right _ (List.mem_append_right _ (List.mem_append_right _ (h)))))))))
  exact List.mem_filter.mpr ⟨List.mem_append_right _ h2, g⟩
theorem gp_1 {i : Nat} {q : MethodName × Nat} (h : lw_privs_1[i]? = some q) (g : goodWord (Cond.selects q.1.cls q.1 q.1) = true) : Cond.selects q.1.cls q.1 q.1 ∈ g_tbl := by
  have h := List.mem_of_getElem? h
  have h2 : q ∈ lw_privs := List.mem_append_left _ h
  exact List.mem_filter.mpr ⟨List.mem_append_left _ (List.mem_map.mpr ⟨q, h2, rfl⟩), g⟩
theorem gp_2 {i : Nat} {q : MethodName × Nat} (h : lw_privs_2[i]? = some q) (g : goodWord (Cond.selects q.1.cls q.1 q.1) = true) : Cond.selects q.1.cls q.1 q.1 ∈ g_tbl := by
  have h := List.mem_of_getElem? h
  have h2 : q ∈ lw_privs := List.mem_append_right _ (List.mem_append_left _ h)
  exact List.mem_filter.mpr ⟨List.mem_append_left _ (List.mem_map.mpr ⟨q, h2, rfl⟩), g⟩
theorem gp_3 {i : Nat} {q : MethodName × Nat} (h : lw_privs_3[i]? = some q) (g : goodWord (Cond.selects q.1.cls q.1 q.1) = true) : Cond.selects q.1.cls q.1 q.1 ∈ g_tbl := by
  have h := List.mem_of_getElem? h
  have h2 : q ∈ lw_privs := List.mem_append_right _ (List.mem_append_right _ (List.mem_append_left _ h))
  exact List.mem_filter.mpr ⟨List.mem_append_left _ (List.mem_map.mpr ⟨q, h2, rfl⟩), g⟩
theorem gp_4 {i : Nat} {q : MethodName × Nat} (h : lw_privs_4[i]? = some q) (g : goodWord (Cond.selects q.1.cls q.1 q.1) = true) : Cond.selects q.1.cls q.1 q.1 ∈ g_tbl := by
  have h := List.mem_of_getElem? h
  have h2 : q ∈ lw_privs := List.mem_append_right _ (List.mem_append_right _ (List.mem_append_right _ (List.mem_append_left _ h)))
  exact List.mem_filter.mpr ⟨List.mem_append_left _ (List.mem_map.mpr ⟨q, h2, rfl⟩), g⟩
theorem gp_5 {i : Nat} {q : MethodName × Nat} (h : lw_privs_5[i]? = some q) (g : goodWord (Cond.selects q.1.cls q.1 q.1) = true) : Cond.selects q.1.cls q.1 q.1 ∈ g_tbl := by
  have h := List.mem_of_getElem? h
  have h2 : q ∈ lw_privs := List.mem_append_right _ (List.mem_append_right _ (List.mem_append_right _ (List.mem_append_right _ (List.mem_append_left _ h))))
  exact List.mem_filter.mpr ⟨List.mem_append_left _ (List.mem_map.mpr ⟨q, h2, rfl⟩), g⟩
theorem gp_6 {i : Nat} {q : MethodName × Nat} (h : lw_privs_6[i]? = some q) (g : goodWord (Cond.selects q.1.cls q.1 q.1) = true) : Cond.selects q.1.cls q.1 q.1 ∈ g_tbl := by
  have h := List.mem_of_getElem? h
  have h2 : q ∈ lw_privs := List.mem_append_right _ (List.mem_append_right _ (List.mem_append_right _ (List.mem_append_right _ (List.mem_append_right _ (List.mem_append_left _ h)))))
  exact List.mem_filter.mpr ⟨List.mem_append_left _ (List.mem_map.mpr ⟨q, h2, rfl⟩), g⟩
theorem gp_7 {i : Nat} {q : MethodName × Nat} (h : lw_privs_7[i]? = some q) (g : goodWord (Cond.selects q.1.cls q.1 q.1) = true) : Cond.selects q.1.cls q.1 q.1 ∈ g_tbl := by
  have h := List.mem_of_getElem? h
  have h2 : q ∈ lw_privs := List.mem_append_right _ (List.mem_append_right _ (List.mem_append_right _ (List.mem_append_right _ (List.mem_append_right _ (List.mem_append_right _ (List.mem_append_left _ h))))))
  exact List.mem_filter.mpr ⟨List.mem_append_left _ (List.mem_map.mpr ⟨q, h2, rfl⟩), g⟩
theorem gp_8 {i : Nat} {q : MethodName × Nat} (h : lw_privs_8[i]? = some q) (g : goodWord (Cond.selects q.1.cls q.1 q.1) = true) : Cond.selects q.1.cls q.1 q.1 ∈ g_tbl := by
  have h := List.mem_of_getElem? h
  have h2 : q ∈ lw_privs := List.mem_append_right _ (List.mem_append_right _ (List.mem_append_right _ (List.mem_append_right _ (List.mem_append_right _ (List.mem_append_right _ (List.mem_append_right _ (h)))))))
  exact List.mem_filter.mpr ⟨List.mem_append_left _ (List.mem_map.mpr ⟨q, h2, rfl⟩), g⟩
theorem g_good : GoodIn g_tbl g_tbl := fun w hw => ⟨hw, good_of_word (List.mem_filter.mp hw).2⟩
def q_R0 : String := "WageCourt$Fact"
def q_T0 : u_T := fun k => match k with
  | 0 => ("WageCourt$Fact", "kind", "I", true)
  | 1 => ("WageCourt$Fact", "subject", "I", true)
  | 2 => ("WageCourt$Fact", "time", "I", true)
  | 3 => ("WageCourt$Fact", "thing", "I", true)
  | 4 => ("WageCourt$Fact", "amount", "I", true)
  | 5 => ("WageCourt$Fact", "cells", "[I", true)
  | _ => ("WageCourt$Fact", "text", "LWageCourt$Text;", true)
def q_y0 : Nat → FieldType := fun k => match k with
  | 0 => .int
  | 1 => .int
  | 2 => .int
  | 3 => .int
  | 4 => .int
  | 5 => .array .int
  | _ => .object "WageCourt$Text"
theorem q_n0 : ∀ a, a < 7 → ∀ b, b < 7 → a ≠ b → (q_T0 a).2.1 ≠ (q_T0 b).2.1 := by decide +kernel
theorem q_t0 : ∀ k, k < 7 → parseFieldDescriptor (q_T0 k).2.2.1 = some (q_y0 k) := by decide +kernel
theorem q_w0 : u_ws q_R0 q_T0 7 = ([1030, 1032, 1034, 1036, 1038, 1040, 1042] : List Nat).filterMap (fun i => lw_tbl[i]?) := by decide +kernel
theorem q_v0 : (u_ws q_R0 q_T0 7).all goodWord = true := by decide +kernel
def q_R1 : String := "WageCourt$Formula"
def q_T1 : u_T := fun k => match k with
  | 0 => ("WageCourt$Formula", "ended", "Z", false)
  | 1 => ("WageCourt$Formula", "isCond", "Z", false)
  | 2 => ("WageCourt$Formula", "state", "I", false)
  | 3 => ("WageCourt$Formula", "brackets", "I", false)
  | 4 => ("WageCourt$Formula", "compared", "Z", false)
  | 5 => ("WageCourt$Formula", "steps", "[I", true)
  | 6 => ("WageCourt$Formula", "stepCount", "I", false)
  | 7 => ("WageCourt$Formula", "waiting", "[I", true)
  | 8 => ("WageCourt$Formula", "waitingCount", "I", false)
  | _ => ("WageCourt$Formula", "open", "[I", true)
def q_y1 : Nat → FieldType := fun k => match k with
  | 0 => .boolean
  | 1 => .boolean
  | 2 => .int
  | 3 => .int
  | 4 => .boolean
  | 5 => .array .int
  | 6 => .int
  | 7 => .array .int
  | 8 => .int
  | _ => .array .int
theorem q_n1 : ∀ a, a < 10 → ∀ b, b < 10 → a ≠ b → (q_T1 a).2.1 ≠ (q_T1 b).2.1 := by decide +kernel
theorem q_t1 : ∀ k, k < 10 → parseFieldDescriptor (q_T1 k).2.2.1 = some (q_y1 k) := by decide +kernel
theorem q_w1 : u_ws q_R1 q_T1 10 = ([174, 176, 178, 180, 182, 184, 186, 188, 190, 192] : List Nat).filterMap (fun i => lw_tbl[i]?) := by decide +kernel
theorem q_v1 : (u_ws q_R1 q_T1 10).all goodWord = true := by decide +kernel
def q_R2 : String := "WageCourt$Item"
def q_T2 : u_T := fun k => match k with
  | 0 => ("WageCourt$Item", "kind", "I", true)
  | 1 => ("WageCourt$Item", "teller", "I", true)
  | 2 => ("WageCourt$Item", "name", "I", false)
  | 3 => ("WageCourt$Item", "tasks", "I", false)
  | 4 => ("WageCourt$Item", "tieAward", "I", false)
  | 5 => ("WageCourt$Item", "tieClass", "I", false)
  | 6 => ("WageCourt$Item", "sum", "[I", false)
  | 7 => ("WageCourt$Item", "cond", "[I", false)
  | 8 => ("WageCourt$Item", "bars", "J", false)
  | 9 => ("WageCourt$Item", "number", "I", false)
  | 10 => ("WageCourt$Item", "low", "I", false)
  | 11 => ("WageCourt$Item", "high", "I", false)
  | _ => ("WageCourt$Item", "fate", "I", false)
def q_y2 : Nat → FieldType := fun k => match k with
  | 0 => .int
  | 1 => .int
  | 2 => .int
  | 3 => .int
  | 4 => .int
  | 5 => .int
  | 6 => .array .int
  | 7 => .array .int
  | 8 => .long
  | 9 => .int
  | 10 => .int
  | 11 => .int
  | _ => .int
theorem q_n2 : ∀ a, a < 13 → ∀ b, b < 13 → a ≠ b → (q_T2 a).2.1 ≠ (q_T2 b).2.1 := by decide +kernel
theorem q_t2 : ∀ k, k < 13 → parseFieldDescriptor (q_T2 k).2.2.1 = some (q_y2 k) := by decide +kernel
theorem q_w2 : u_ws q_R2 q_T2 13 = ([773, 775, 777, 779, 781, 783, 785, 787, 789, 791, 793, 795, 797] : List Nat).filterMap (fun i => lw_tbl[i]?) := by decide +kernel
theorem q_v2 : (u_ws q_R2 q_T2 13).all goodWord = true := by decide +kernel
def q_R3 : String := "WageCourt$Land"
def q_T3 : u_T := fun k => match k with
  | 0 => ("WageCourt$Land", "towns", "I", false)
  | 1 => ("WageCourt$Land", "firms", "I", false)
  | 2 => ("WageCourt$Land", "people", "I", false)
  | 3 => ("WageCourt$Land", "firmTown", "[I", true)
  | 4 => ("WageCourt$Land", "firmTrade", "[I", true)
  | 5 => ("WageCourt$Land", "personFirm", "[I", true)
  | 6 => ("WageCourt$Land", "personTickets", "[I", true)
  | 7 => ("WageCourt$Land", "personYears", "[I", true)
  | 8 => ("WageCourt$Land", "marks", "[I", true)
  | _ => ("WageCourt$Land", "weights", "[I", true)
def q_y3 : Nat → FieldType := fun k => match k with
  | 0 => .int
  | 1 => .int
  | 2 => .int
  | 3 => .array .int
  | 4 => .array .int
  | 5 => .array .int
  | 6 => .array .int
  | 7 => .array .int
  | 8 => .array .int
  | _ => .array .int
theorem q_n3 : ∀ a, a < 10 → ∀ b, b < 10 → a ≠ b → (q_T3 a).2.1 ≠ (q_T3 b).2.1 := by decide +kernel
theorem q_t3 : ∀ k, k < 10 → parseFieldDescriptor (q_T3 k).2.2.1 = some (q_y3 k) := by decide +kernel
theorem q_w3 : u_ws q_R3 q_T3 10 = ([227, 229, 231, 233, 235, 237, 239, 241, 243, 245] : List Nat).filterMap (fun i => lw_tbl[i]?) := by decide +kernel
theorem q_v3 : (u_ws q_R3 q_T3 10).all goodWord = true := by decide +kernel
def q_R4 : String := "WageCourt$Ledger"
def q_T4 : u_T := fun k => match k with
  | 0 => ("WageCourt$Ledger", "facts", "[LWageCourt$Fact;", true)
  | 1 => ("WageCourt$Ledger", "texts", "[LWageCourt$Text;", true)
  | 2 => ("WageCourt$Ledger", "factCount", "I", false)
  | _ => ("WageCourt$Ledger", "textCount", "I", false)
def q_y4 : Nat → FieldType := fun k => match k with
  | 0 => .array (.object "WageCourt$Fact")
  | 1 => .array (.object "WageCourt$Text")
  | 2 => .int
  | _ => .int
theorem q_n4 : ∀ a, a < 4 → ∀ b, b < 4 → a ≠ b → (q_T4 a).2.1 ≠ (q_T4 b).2.1 := by decide +kernel
theorem q_t4 : ∀ k, k < 4 → parseFieldDescriptor (q_T4 k).2.2.1 = some (q_y4 k) := by decide +kernel
theorem q_w4 : u_ws q_R4 q_T4 4 = ([270, 272, 274, 276] : List Nat).filterMap (fun i => lw_tbl[i]?) := by decide +kernel
theorem q_v4 : (u_ws q_R4 q_T4 4).all goodWord = true := by decide +kernel
def q_R5 : String := "WageCourt$Lexer"
def q_T5 : u_T := fun k => match k with
  | 0 => ("WageCourt$Lexer", "tape", "[I", true)
  | 1 => ("WageCourt$Lexer", "length", "I", false)
  | 2 => ("WageCourt$Lexer", "kinds", "[I", true)
  | 3 => ("WageCourt$Lexer", "places", "[I", true)
  | 4 => ("WageCourt$Lexer", "says", "[J", true)
  | 5 => ("WageCourt$Lexer", "words", "[J", true)
  | _ => ("WageCourt$Lexer", "next", "I", false)
def q_y5 : Nat → FieldType := fun k => match k with
  | 0 => .array .int
  | 1 => .int
  | 2 => .array .int
  | 3 => .array .int
  | 4 => .array .long
  | 5 => .array .long
  | _ => .int
theorem q_n5 : ∀ a, a < 7 → ∀ b, b < 7 → a ≠ b → (q_T5 a).2.1 ≠ (q_T5 b).2.1 := by decide +kernel
theorem q_t5 : ∀ k, k < 7 → parseFieldDescriptor (q_T5 k).2.2.1 = some (q_y5 k) := by decide +kernel
theorem q_w5 : u_ws q_R5 q_T5 7 = ([356, 358, 360, 362, 364, 366, 368] : List Nat).filterMap (fun i => lw_tbl[i]?) := by decide +kernel
theorem q_v5 : (u_ws q_R5 q_T5 7).all goodWord = true := by decide +kernel
def q_R6 : String := "WageCourt$Parser"
def q_T6 : u_T := fun k => match k with
  | 0 => ("WageCourt$Parser", "lexer", "LWageCourt$Lexer;", true)
  | 1 => ("WageCourt$Parser", "ledger", "LWageCourt$Ledger;", true)
  | 2 => ("WageCourt$Parser", "names", "[J", true)
  | 3 => ("WageCourt$Parser", "nameCount", "I", false)
  | 4 => ("WageCourt$Parser", "namesBefore", "I", false)
  | 5 => ("WageCourt$Parser", "fault", "I", false)
  | 6 => ("WageCourt$Parser", "faultPlace", "I", false)
  | 7 => ("WageCourt$Parser", "formula", "LWageCourt$Formula;", true)
  | 8 => ("WageCourt$Parser", "lateFault", "I", false)
  | 9 => ("WageCourt$Parser", "latePlace", "I", false)
  | 10 => ("WageCourt$Parser", "fullPlace", "I", false)
  | 11 => ("WageCourt$Parser", "at", "I", false)
  | 12 => ("WageCourt$Parser", "got", "I", false)
  | 13 => ("WageCourt$Parser", "items", "[LWageCourt$Item;", true)
  | 14 => ("WageCourt$Parser", "itemCount", "I", false)
  | 15 => ("WageCourt$Parser", "textKind", "I", false)
  | 16 => ("WageCourt$Parser", "title", "I", false)
  | 17 => ("WageCourt$Parser", "firm", "I", false)
  | _ => ("WageCourt$Parser", "from", "I", false)
def q_y6 : Nat → FieldType := fun k => match k with
  | 0 => .object "WageCourt$Lexer"
  | 1 => .object "WageCourt$Ledger"
  | 2 => .array .long
  | 3 => .int
  | 4 => .int
  | 5 => .int
  | 6 => .int
  | 7 => .object "WageCourt$Formula"
  | 8 => .int
  | 9 => .int
  | 10 => .int
  | 11 => .int
  | 12 => .int
  | 13 => .array (.object "WageCourt$Item")
  | 14 => .int
  | 15 => .int
  | 16 => .int
  | 17 => .int
  | _ => .int
theorem q_n6 : ∀ a, a < 19 → ∀ b, b < 19 → a ≠ b → (q_T6 a).2.1 ≠ (q_T6 b).2.1 := by decide +kernel
theorem q_t6 : ∀ k, k < 19 → parseFieldDescriptor (q_T6 k).2.2.1 = some (q_y6 k) := by decide +kernel
theorem q_w6 : u_ws q_R6 q_T6 19 = ([403, 405, 407, 409, 411, 413, 415, 417, 419, 421, 423, 425, 427, 429, 431, 433, 435, 437, 439] : List Nat).filterMap (fun i => lw_tbl[i]?) := by decide +kernel
theorem q_v6 : (u_ws q_R6 q_T6 19).all goodWord = true := by decide +kernel
def q_R7 : String := "WageCourt$Parting"
def q_T7 : u_T := fun k => match k with
  | 0 => ("WageCourt$Parting", "values", "[I", true)
  | 1 => ("WageCourt$Parting", "apartFrom", "[I", true)
  | 2 => ("WageCourt$Parting", "classOf", "[I", true)
  | 3 => ("WageCourt$Parting", "valueOf", "[I", true)
  | 4 => ("WageCourt$Parting", "members", "[I", true)
  | 5 => ("WageCourt$Parting", "size", "I", false)
  | 6 => ("WageCourt$Parting", "group", "[I", true)
  | 7 => ("WageCourt$Parting", "groupValue", "[I", true)
  | 8 => ("WageCourt$Parting", "bestGroup", "[I", true)
  | 9 => ("WageCourt$Parting", "bestValue", "[I", true)
  | 10 => ("WageCourt$Parting", "bestChanged", "I", false)
  | _ => ("WageCourt$Parting", "bestGroups", "I", false)
def q_y7 : Nat → FieldType := fun k => match k with
  | 0 => .array .int
  | 1 => .array .int
  | 2 => .array .int
  | 3 => .array .int
  | 4 => .array .int
  | 5 => .int
  | 6 => .array .int
  | 7 => .array .int
  | 8 => .array .int
  | 9 => .array .int
  | 10 => .int
  | _ => .int
theorem q_n7 : ∀ a, a < 12 → ∀ b, b < 12 → a ≠ b → (q_T7 a).2.1 ≠ (q_T7 b).2.1 := by decide +kernel
theorem q_t7 : ∀ k, k < 12 → parseFieldDescriptor (q_T7 k).2.2.1 = some (q_y7 k) := by decide +kernel
theorem q_w7 : u_ws q_R7 q_T7 12 = ([578, 580, 582, 584, 586, 588, 590, 592, 594, 596, 598, 600] : List Nat).filterMap (fun i => lw_tbl[i]?) := by decide +kernel
theorem q_v7 : (u_ws q_R7 q_T7 12).all goodWord = true := by decide +kernel
def q_R8 : String := "WageCourt$Reckoning"
def q_T8 : u_T := fun k => match k with
  | 0 => ("WageCourt$Reckoning", "ledger", "LWageCourt$Ledger;", true)
  | 1 => ("WageCourt$Reckoning", "scene", "LWageCourt$Scene;", true)
  | 2 => ("WageCourt$Reckoning", "person", "I", false)
  | 3 => ("WageCourt$Reckoning", "week", "I", false)
  | 4 => ("WageCourt$Reckoning", "known", "I", false)
  | 5 => ("WageCourt$Reckoning", "rows", "[LWageCourt$Fact;", true)
  | 6 => ("WageCourt$Reckoning", "tasks", "[I", true)
  | 7 => ("WageCourt$Reckoning", "worked", "[I", true)
  | 8 => ("WageCourt$Reckoning", "workedAhead", "I", false)
  | 9 => ("WageCourt$Reckoning", "bound", "[I", true)
  | 10 => ("WageCourt$Reckoning", "award", "[LWageCourt$Text;", true)
  | 11 => ("WageCourt$Reckoning", "awardClass", "[I", true)
  | 12 => ("WageCourt$Reckoning", "agree", "[LWageCourt$Text;", true)
  | 13 => ("WageCourt$Reckoning", "agreeClass", "[I", true)
  | 14 => ("WageCourt$Reckoning", "payer", "[LWageCourt$Text;", true)
  | 15 => ("WageCourt$Reckoning", "worth", "[I", true)
  | 16 => ("WageCourt$Reckoning", "vars", "[I", true)
  | 17 => ("WageCourt$Reckoning", "rate", "I", false)
  | 18 => ("WageCourt$Reckoning", "counted", "[I", true)
  | _ => ("WageCourt$Reckoning", "countedItems", "I", false)
def q_y8 : Nat → FieldType := fun k => match k with
  | 0 => .object "WageCourt$Ledger"
  | 1 => .object "WageCourt$Scene"
  | 2 => .int
  | 3 => .int
  | 4 => .int
  | 5 => .array (.object "WageCourt$Fact")
  | 6 => .array .int
  | 7 => .array .int
  | 8 => .int
  | 9 => .array .int
  | 10 => .array (.object "WageCourt$Text")
  | 11 => .array .int
  | 12 => .array (.object "WageCourt$Text")
  | 13 => .array .int
  | 14 => .array (.object "WageCourt$Text")
  | 15 => .array .int
  | 16 => .array .int
  | 17 => .int
  | 18 => .array .int
  | _ => .int
theorem q_n8 : ∀ a, a < 20 → ∀ b, b < 20 → a ≠ b → (q_T8 a).2.1 ≠ (q_T8 b).2.1 := by decide +kernel
theorem q_t8 : ∀ k, k < 20 → parseFieldDescriptor (q_T8 k).2.2.1 = some (q_y8 k) := by decide +kernel
theorem q_w8 : u_ws q_R8 q_T8 20 = ([515, 517, 519, 521, 523, 525, 527, 529, 531, 533, 535, 537, 539, 541, 543, 545, 547, 549, 551, 553] : List Nat).filterMap (fun i => lw_tbl[i]?) := by decide +kernel
theorem q_v8 : (u_ws q_R8 q_T8 20).all goodWord = true := by decide +kernel
def q_R9 : String := "WageCourt$Scene"
def q_T9 : u_T := fun k => match k with
  | 0 => ("WageCourt$Scene", "land", "LWageCourt$Land;", true)
  | 1 => ("WageCourt$Scene", "ledger", "LWageCourt$Ledger;", true)
  | 2 => ("WageCourt$Scene", "formula", "LWageCourt$Formula;", true)
  | 3 => ("WageCourt$Scene", "ambitVars", "[I", true)
  | 4 => ("WageCourt$Scene", "marginVars", "[I", true)
  | 5 => ("WageCourt$Scene", "walks", "I", false)
  | 6 => ("WageCourt$Scene", "supposedAward", "LWageCourt$Text;", false)
  | 7 => ("WageCourt$Scene", "supposedName", "I", false)
  | _ => ("WageCourt$Scene", "supposedMargin", "I", false)
def q_y9 : Nat → FieldType := fun k => match k with
  | 0 => .object "WageCourt$Land"
  | 1 => .object "WageCourt$Ledger"
  | 2 => .object "WageCourt$Formula"
  | 3 => .array .int
  | 4 => .array .int
  | 5 => .int
  | 6 => .object "WageCourt$Text"
  | 7 => .int
  | _ => .int
theorem q_n9 : ∀ a, a < 9 → ∀ b, b < 9 → a ≠ b → (q_T9 a).2.1 ≠ (q_T9 b).2.1 := by decide +kernel
theorem q_t9 : ∀ k, k < 9 → parseFieldDescriptor (q_T9 k).2.2.1 = some (q_y9 k) := by decide +kernel
theorem q_w9 : u_ws q_R9 q_T9 9 = ([459, 461, 463, 465, 467, 469, 471, 473, 475] : List Nat).filterMap (fun i => lw_tbl[i]?) := by decide +kernel
theorem q_v9 : (u_ws q_R9 q_T9 9).all goodWord = true := by decide +kernel
def q_R10 : String := "WageCourt$Text"
def q_T10 : u_T := fun k => match k with
  | 0 => ("WageCourt$Text", "kind", "I", true)
  | 1 => ("WageCourt$Text", "fact", "I", true)
  | 2 => ("WageCourt$Text", "name", "I", true)
  | 3 => ("WageCourt$Text", "firm", "I", true)
  | 4 => ("WageCourt$Text", "from", "I", true)
  | 5 => ("WageCourt$Text", "parent", "LWageCourt$Text;", true)
  | 6 => ("WageCourt$Text", "items", "[LWageCourt$Item;", true)
  | 7 => ("WageCourt$Text", "inForce", "Z", false)
  | 8 => ("WageCourt$Text", "stands", "[LWageCourt$Item;", true)
  | 9 => ("WageCourt$Text", "tellsMargin", "[LWageCourt$Item;", true)
  | 10 => ("WageCourt$Text", "walked", "[I", true)
  | 11 => ("WageCourt$Text", "tally", "[I", true)
  | 12 => ("WageCourt$Text", "standing", "I", false)
  | 13 => ("WageCourt$Text", "choose", "I", false)
  | 14 => ("WageCourt$Text", "round", "I", false)
  | 15 => ("WageCourt$Text", "binds", "Z", false)
  | _ => ("WageCourt$Text", "total", "J", false)
def q_y10 : Nat → FieldType := fun k => match k with
  | 0 => .int
  | 1 => .int
  | 2 => .int
  | 3 => .int
  | 4 => .int
  | 5 => .object "WageCourt$Text"
  | 6 => .array (.object "WageCourt$Item")
  | 7 => .boolean
  | 8 => .array (.object "WageCourt$Item")
  | 9 => .array (.object "WageCourt$Item")
  | 10 => .array .int
  | 11 => .array .int
  | 12 => .int
  | 13 => .int
  | 14 => .int
  | 15 => .boolean
  | _ => .long
theorem q_n10 : ∀ a, a < 17 → ∀ b, b < 17 → a ≠ b → (q_T10 a).2.1 ≠ (q_T10 b).2.1 := by decide +kernel
theorem q_t10 : ∀ k, k < 17 → parseFieldDescriptor (q_T10 k).2.2.1 = some (q_y10 k) := by decide +kernel
theorem q_w10 : u_ws q_R10 q_T10 17 = ([965, 967, 969, 971, 973, 975, 977, 979, 981, 983, 985, 987, 989, 991, 993, 995, 997] : List Nat).filterMap (fun i => lw_tbl[i]?) := by decide +kernel
theorem q_v10 : (u_ws q_R10 q_T10 17).all goodWord = true := by decide +kernel
def q_R11 : String := "WageCourt"
def q_T11 : u_T := fun k => match k with
  | 0 => ("WageCourt", "land", "LWageCourt$Land;", true)
  | 1 => ("WageCourt", "ledger", "LWageCourt$Ledger;", true)
  | 2 => ("WageCourt", "lexer", "LWageCourt$Lexer;", true)
  | 3 => ("WageCourt", "parser", "LWageCourt$Parser;", true)
  | 4 => ("WageCourt", "scene", "LWageCourt$Scene;", true)
  | 5 => ("WageCourt", "reckoning", "LWageCourt$Reckoning;", true)
  | 6 => ("WageCourt", "tasks", "LWageCourt$Parting;", true)
  | _ => ("WageCourt", "faultPlace", "I", false)
def q_y11 : Nat → FieldType := fun k => match k with
  | 0 => .object "WageCourt$Land"
  | 1 => .object "WageCourt$Ledger"
  | 2 => .object "WageCourt$Lexer"
  | 3 => .object "WageCourt$Parser"
  | 4 => .object "WageCourt$Scene"
  | 5 => .object "WageCourt$Reckoning"
  | 6 => .object "WageCourt$Parting"
  | _ => .int
theorem q_n11 : ∀ a, a < 8 → ∀ b, b < 8 → a ≠ b → (q_T11 a).2.1 ≠ (q_T11 b).2.1 := by decide +kernel
theorem q_t11 : ∀ k, k < 8 → parseFieldDescriptor (q_T11 k).2.2.1 = some (q_y11 k) := by decide +kernel
theorem q_w11 : u_ws q_R11 q_T11 8 = ([611, 613, 615, 617, 619, 621, 623, 625] : List Nat).filterMap (fun i => lw_tbl[i]?) := by decide +kernel
theorem q_v11 : (u_ws q_R11 q_T11 8).all goodWord = true := by decide +kernel
def q_R12 : String := "WageCourtModel"
def q_T12 : u_T := fun k => match k with
  | 0 => ("WageCourtModel", "thrown", "I", false)
  | 1 => ("WageCourtModel", "tape", "[B", true)
  | 2 => ("WageCourtModel", "taped", "I", false)
  | 3 => ("WageCourtModel", "text", "[B", true)
  | 4 => ("WageCourtModel", "size", "I", false)
  | 5 => ("WageCourtModel", "tKind", "[I", true)
  | 6 => ("WageCourtModel", "tPlace", "[I", true)
  | 7 => ("WageCourtModel", "tValue", "[I", true)
  | 8 => ("WageCourtModel", "tName", "[J", true)
  | 9 => ("WageCourtModel", "keys", "[J", true)
  | 10 => ("WageCourtModel", "tokens", "I", false)
  | 11 => ("WageCourtModel", "t", "I", false)
  | 12 => ("WageCourtModel", "open", "I", false)
  | 13 => ("WageCourtModel", "fault", "I", false)
  | 14 => ("WageCourtModel", "faultPlace", "I", false)
  | 15 => ("WageCourtModel", "worst", "I", false)
  | 16 => ("WageCourtModel", "worstPlace", "I", false)
  | 17 => ("WageCourtModel", "place", "I", false)
  | 18 => ("WageCourtModel", "texts", "I", false)
  | 19 => ("WageCourtModel", "textSort", "[I", true)
  | 20 => ("WageCourtModel", "textName", "[I", true)
  | 21 => ("WageCourtModel", "textFirm", "[I", true)
  | 22 => ("WageCourtModel", "textFrom", "[I", true)
  | 23 => ("WageCourtModel", "textFact", "[I", true)
  | 24 => ("WageCourtModel", "textOf", "[I", true)
  | 25 => ("WageCourtModel", "items", "[I", true)
  | 26 => ("WageCourtModel", "itemSort", "[I", true)
  | 27 => ("WageCourtModel", "itemName", "[I", true)
  | 28 => ("WageCourtModel", "itemSet", "[I", true)
  | 29 => ("WageCourtModel", "itemFollows", "[Z", true)
  | 30 => ("WageCourtModel", "itemA", "[I", true)
  | 31 => ("WageCourtModel", "itemC", "[I", true)
  | 32 => ("WageCourtModel", "itemFrom", "[I", true)
  | 33 => ("WageCourtModel", "itemTo", "[I", true)
  | 34 => ("WageCourtModel", "litFirst", "[I", true)
  | 35 => ("WageCourtModel", "litLast", "[I", true)
  | 36 => ("WageCourtModel", "itemBars", "[I", true)
  | 37 => ("WageCourtModel", "bars", "[I", true)
  | 38 => ("WageCourtModel", "litSort", "[I", true)
  | 39 => ("WageCourtModel", "litNot", "[Z", true)
  | 40 => ("WageCourtModel", "litOr", "[Z", true)
  | 41 => ("WageCourtModel", "litLeft", "[I", true)
  | 42 => ("WageCourtModel", "litRight", "[I", true)
  | 43 => ("WageCourtModel", "litEnd", "[I", true)
  | 44 => ("WageCourtModel", "lits", "I", false)
  | 45 => ("WageCourtModel", "codes", "I", false)
  | 46 => ("WageCourtModel", "code", "[I", true)
  | 47 => ("WageCourtModel", "codeInt", "[I", true)
  | 48 => ("WageCourtModel", "names", "I", false)
  | 49 => ("WageCourtModel", "nameMany", "I", false)
  | 50 => ("WageCourtModel", "nameOf", "[J", true)
  | 51 => ("WageCourtModel", "tooMany", "I", false)
  | 52 => ("WageCourtModel", "x", "I", false)
  | 53 => ("WageCourtModel", "waits", "[I", true)
  | 54 => ("WageCourtModel", "waiting", "I", false)
  | 55 => ("WageCourtModel", "towns", "I", false)
  | 56 => ("WageCourtModel", "firms", "I", false)
  | 57 => ("WageCourtModel", "townOf", "[I", true)
  | 58 => ("WageCourtModel", "trade", "[I", true)
  | 59 => ("WageCourtModel", "people", "I", false)
  | 60 => ("WageCourtModel", "firmOf", "[I", true)
  | 61 => ("WageCourtModel", "tickets", "[I", true)
  | 62 => ("WageCourtModel", "years", "[I", true)
  | 63 => ("WageCourtModel", "marks", "[I", true)
  | 64 => ("WageCourtModel", "weight", "[I", true)
  | 65 => ("WageCourtModel", "facts", "I", false)
  | 66 => ("WageCourtModel", "sort", "[I", true)
  | 67 => ("WageCourtModel", "factA", "[I", true)
  | 68 => ("WageCourtModel", "factB", "[I", true)
  | 69 => ("WageCourtModel", "factC", "[I", true)
  | 70 => ("WageCourtModel", "factV", "[I", true)
  | 71 => ("WageCourtModel", "cells", "[I", true)
  | 72 => ("WageCourtModel", "variables", "[I", true)
  | 73 => ("WageCourtModel", "pile", "[I", true)
  | 74 => ("WageCourtModel", "isBroken", "Z", false)
  | 75 => ("WageCourtModel", "ticketsNow", "I", false)
  | 76 => ("WageCourtModel", "builtDay", "I", false)
  | 77 => ("WageCourtModel", "builtFirm", "I", false)
  | 78 => ("WageCourtModel", "builtN", "I", false)
  | 79 => ("WageCourtModel", "isForce", "[Z", true)
  | 80 => ("WageCourtModel", "rowMany", "[I", true)
  | 81 => ("WageCourtModel", "rowItem", "[I", true)
  | 82 => ("WageCourtModel", "rowMargin", "[I", true)
  | 83 => ("WageCourtModel", "choose", "[I", true)
  | 84 => ("WageCourtModel", "round", "[I", true)
  | 85 => ("WageCourtModel", "fates", "[I", true)
  | 86 => ("WageCourtModel", "tryText", "I", false)
  | 87 => ("WageCourtModel", "tryName", "I", false)
  | 88 => ("WageCourtModel", "tryMargin", "I", false)
  | 89 => ("WageCourtModel", "comes", "I", false)
  | 90 => ("WageCourtModel", "come", "[I", true)
  | 91 => ("WageCourtModel", "lookedDay", "I", false)
  | 92 => ("WageCourtModel", "lookedWho", "I", false)
  | 93 => ("WageCourtModel", "lookedN", "I", false)
  | 94 => ("WageCourtModel", "hTask", "[I", true)
  | 95 => ("WageCourtModel", "hWorked", "[I", true)
  | 96 => ("WageCourtModel", "hAward", "[I", true)
  | 97 => ("WageCourtModel", "hClass", "[I", true)
  | 98 => ("WageCourtModel", "hAgree", "[I", true)
  | 99 => ("WageCourtModel", "hOther", "[I", true)
  | 100 => ("WageCourtModel", "hWorth", "[I", true)
  | 101 => ("WageCourtModel", "hMore", "[I", true)
  | 102 => ("WageCourtModel", "weekAhead", "I", false)
  | 103 => ("WageCourtModel", "wetNow", "I", false)
  | 104 => ("WageCourtModel", "binds", "[Z", true)
  | 105 => ("WageCourtModel", "often", "[I", true)
  | 106 => ("WageCourtModel", "rateNow", "I", false)
  | 107 => ("WageCourtModel", "countMany", "I", false)
  | 108 => ("WageCourtModel", "countNames", "[I", true)
  | 109 => ("WageCourtModel", "countItem", "[I", true)
  | 110 => ("WageCourtModel", "sums", "[J", true)
  | 111 => ("WageCourtModel", "valueOf", "[I", true)
  | 112 => ("WageCourtModel", "areApart", "[Z", true)
  | 113 => ("WageCourtModel", "partOf", "[I", true)
  | 114 => ("WageCourtModel", "partValue", "[I", true)
  | 115 => ("WageCourtModel", "isParted", "Z", false)
  | 116 => ("WageCourtModel", "member", "[I", true)
  | 117 => ("WageCourtModel", "of", "[I", true)
  | 118 => ("WageCourtModel", "values", "[I", true)
  | 119 => ("WageCourtModel", "bestOf", "[I", true)
  | _ => ("WageCourtModel", "bestValues", "[I", true)
def q_y12 : Nat → FieldType := fun k => match k with
  | 0 => .int
  | 1 => .array .byte
  | 2 => .int
  | 3 => .array .byte
  | 4 => .int
  | 5 => .array .int
  | 6 => .array .int
  | 7 => .array .int
  | 8 => .array .long
  | 9 => .array .long
  | 10 => .int
  | 11 => .int
  | 12 => .int
  | 13 => .int
  | 14 => .int
  | 15 => .int
  | 16 => .int
  | 17 => .int
  | 18 => .int
  | 19 => .array .int
  | 20 => .array .int
  | 21 => .array .int
  | 22 => .array .int
  | 23 => .array .int
  | 24 => .array .int
  | 25 => .array .int
  | 26 => .array .int
  | 27 => .array .int
  | 28 => .array .int
  | 29 => .array .boolean
  | 30 => .array .int
  | 31 => .array .int
  | 32 => .array .int
  | 33 => .array .int
  | 34 => .array .int
  | 35 => .array .int
  | 36 => .array .int
  | 37 => .array .int
  | 38 => .array .int
  | 39 => .array .boolean
  | 40 => .array .boolean
  | 41 => .array .int
  | 42 => .array .int
  | 43 => .array .int
  | 44 => .int
  | 45 => .int
  | 46 => .array .int
  | 47 => .array .int
  | 48 => .int
  | 49 => .int
  | 50 => .array .long
  | 51 => .int
  | 52 => .int
  | 53 => .array .int
  | 54 => .int
  | 55 => .int
  | 56 => .int
  | 57 => .array .int
  | 58 => .array .int
  | 59 => .int
  | 60 => .array .int
  | 61 => .array .int
  | 62 => .array .int
  | 63 => .array .int
  | 64 => .array .int
  | 65 => .int
  | 66 => .array .int
  | 67 => .array .int
  | 68 => .array .int
  | 69 => .array .int
  | 70 => .array .int
  | 71 => .array .int
  | 72 => .array .int
  | 73 => .array .int
  | 74 => .boolean
  | 75 => .int
  | 76 => .int
  | 77 => .int
  | 78 => .int
  | 79 => .array .boolean
  | 80 => .array .int
  | 81 => .array .int
  | 82 => .array .int
  | 83 => .array .int
  | 84 => .array .int
  | 85 => .array .int
  | 86 => .int
  | 87 => .int
  | 88 => .int
  | 89 => .int
  | 90 => .array .int
  | 91 => .int
  | 92 => .int
  | 93 => .int
  | 94 => .array .int
  | 95 => .array .int
  | 96 => .array .int
  | 97 => .array .int
  | 98 => .array .int
  | 99 => .array .int
  | 100 => .array .int
  | 101 => .array .int
  | 102 => .int
  | 103 => .int
  | 104 => .array .boolean
  | 105 => .array .int
  | 106 => .int
  | 107 => .int
  | 108 => .array .int
  | 109 => .array .int
  | 110 => .array .long
  | 111 => .array .int
  | 112 => .array .boolean
  | 113 => .array .int
  | 114 => .array .int
  | 115 => .boolean
  | 116 => .array .int
  | 117 => .array .int
  | 118 => .array .int
  | 119 => .array .int
  | _ => .array .int
theorem q_n12 : ∀ a, a < 121 → ∀ b, b < 121 → a ≠ b → (q_T12 a).2.1 ≠ (q_T12 b).2.1 := by decide +kernel
theorem q_t12 : ∀ k, k < 121 → parseFieldDescriptor (q_T12 k).2.2.1 = some (q_y12 k) := by decide +kernel
theorem q_w12 : u_ws q_R12 q_T12 121 = ([1702, 1704, 1706, 1708, 1710, 1712, 1714, 1716, 1718, 1720, 1722, 1724, 1726, 1728, 1730, 1732, 1734, 1736, 1738, 1740, 1742, 1744, 1746, 1748, 1750, 1752, 1754, 1756, 1758, 1760, 1762, 1764, 1766, 1768, 1770, 1772, 1774, 1776, 1778, 1780, 1782, 1784, 1786, 1788, 1790, 1792, 1794, 1796, 1798, 1800, 1802, 1804, 1806, 1808, 1810, 1812, 1814, 1816, 1818, 1820, 1822, 1824, 1826, 1828, 1830, 1832, 1834, 1836, 1838, 1840, 1842, 1844, 1846, 1848, 1850, 1852, 1854, 1856, 1858, 1860, 1862, 1864, 1866, 1868, 1870, 1872, 1874, 1876, 1878, 1880, 1882, 1884, 1886, 1888, 1890, 1892, 1894, 1896, 1898, 1900, 1902, 1904, 1906, 1908, 1910, 1912, 1914, 1916, 1918, 1920, 1922, 1924, 1926, 1928, 1930, 1932, 1934, 1936, 1938, 1940, 1942] : List Nat).filterMap (fun i => lw_tbl[i]?) := by decide +kernel
theorem q_v12 : (u_ws q_R12 q_T12 121).all goodWord = true := by decide +kernel
abbrev q_cl : List vw_C := [(q_R0, q_T0, 7), (q_R1, q_T1, 10), (q_R2, q_T2, 13), (q_R3, q_T3, 10), (q_R4, q_T4, 4), (q_R5, q_T5, 7), (q_R6, q_T6, 19), (q_R7, q_T7, 12), (q_R8, q_T8, 20), (q_R9, q_T9, 9), (q_R10, q_T10, 17), (q_R11, q_T11, 8), (q_R12, q_T12, 121)]
def q_ty (c : Nat) : Nat → FieldType := match c with
  | 0 => q_y0
  | 1 => q_y1
  | 2 => q_y2
  | 3 => q_y3
  | 4 => q_y4
  | 5 => q_y5
  | 6 => q_y6
  | 7 => q_y7
  | 8 => q_y8
  | 9 => q_y9
  | 10 => q_y10
  | 11 => q_y11
  | _ => q_y12
theorem q_ok : ∀ (ci : Nat) (r : vw_C), q_cl[ci]? = some r → (∀ w ∈ u_ws r.1 r.2.1 r.2.2, w ∈ g_tbl) ∧ (∀ k, k < r.2.2 → parseFieldDescriptor (r.2.1 k).2.2.1 = some (q_ty ci k)) ∧ ∀ a, a < r.2.2 → ∀ b, b < r.2.2 → a ≠ b → (r.2.1 a).2.1 ≠ (r.2.1 b).2.1 := by
  intro ci r hr
  have key : ∀ (ws : List Cond) (ps : List Nat), ws = ps.filterMap (fun i => lw_tbl[i]?) → ws.all goodWord = true → ∀ w ∈ ws, w ∈ g_tbl := by
    intro ws ps hp hg w hw
    have hg2 := List.all_eq_true.mp hg w hw
    rw [hp] at hw
    obtain ⟨i, -, hi⟩ := List.mem_filterMap.mp hw
    exact g_mem hi hg2
  match ci, hr with
  | 0, hr => cases hr; exact ⟨key _ _ q_w0 q_v0, q_t0, q_n0⟩
  | 1, hr => cases hr; exact ⟨key _ _ q_w1 q_v1, q_t1, q_n1⟩
  | 2, hr => cases hr; exact ⟨key _ _ q_w2 q_v2, q_t2, q_n2⟩
  | 3, hr => cases hr; exact ⟨key _ _ q_w3 q_v3, q_t3, q_n3⟩
  | 4, hr => cases hr; exact ⟨key _ _ q_w4 q_v4, q_t4, q_n4⟩
  | 5, hr => cases hr; exact ⟨key _ _ q_w5 q_v5, q_t5, q_n5⟩
  | 6, hr => cases hr; exact ⟨key _ _ q_w6 q_v6, q_t6, q_n6⟩
  | 7, hr => cases hr; exact ⟨key _ _ q_w7 q_v7, q_t7, q_n7⟩
  | 8, hr => cases hr; exact ⟨key _ _ q_w8 q_v8, q_t8, q_n8⟩
  | 9, hr => cases hr; exact ⟨key _ _ q_w9 q_v9, q_t9, q_n9⟩
  | 10, hr => cases hr; exact ⟨key _ _ q_w10 q_v10, q_t10, q_n10⟩
  | 11, hr => cases hr; exact ⟨key _ _ q_w11 q_v11, q_t11, q_n11⟩
  | 12, hr => cases hr; exact ⟨key _ _ q_w12 q_v12, q_t12, q_n12⟩
  | k + 13, hr => simp [q_cl] at hr
def n_tbl : List (String × Nat × MethodName × String) := [("WageCourt", 15, ⟨"WageCourt$Formula", "<init>", "()V"⟩, "WageCourt"), ("WageCourt", 25, ⟨"WageCourt$Ledger", "<init>", "()V"⟩, "WageCourt"), ("WageCourt$Formula", 58, ⟨"WageCourt", "within", "(III)Z"⟩, "WageCourt"), ("WageCourt$Land", 43, ⟨"WageCourt", "within", "(III)Z"⟩, "WageCourt"), ("WageCourt$Ledger", 27, ⟨"WageCourt", "within", "(III)Z"⟩, "WageCourt"), ("WageCourt$Parser", 139, ⟨"WageCourt", "within", "(III)Z"⟩, "WageCourt"), ("WageCourt$Parting", 99, ⟨"WageCourt", "within", "(III)Z"⟩, "WageCourt"), ("WageCourt$Reckoning", 89, ⟨"WageCourt", "isTask", "(I)Z"⟩, "WageCourt"), ("WageCourt$Reckoning", 292, ⟨"WageCourt", "held", "(III)I"⟩, "WageCourt"), ("WageCourt$Scene", 150, ⟨"WageCourt", "within", "(III)Z"⟩, "WageCourt"), ("WageCourt$Scene", 176, ⟨"WageCourt", "held", "(III)I"⟩, "WageCourt"), ("WageCourt$Text", 68, ⟨"WageCourt", "isTask", "(I)Z"⟩, "WageCourt")]
theorem n_tbl_in : ∀ q ∈ n_tbl, Cond.methodLinkNest q.1 q.2.1 q.2.2.1 q.2.2.2 ∈ lw_tbl := by
  have key : n_tbl.map (fun q => Cond.methodLinkNest q.1 q.2.1 q.2.2.1 q.2.2.2) = ([159, 250, 828, 1073, 1140, 684, 1547, 1330, 1402, 1272, 1293, 1416] : List Nat).filterMap (fun i => lw_tbl[i]?) := by decide +kernel
  intro q hq
  have h : Cond.methodLinkNest q.1 q.2.1 q.2.2.1 q.2.2.2 ∈ n_tbl.map (fun q => Cond.methodLinkNest q.1 q.2.1 q.2.2.1 q.2.2.2) := List.mem_map.mpr ⟨q, hq, rfl⟩
  rw [key] at h
  obtain ⟨i, -, hi⟩ := List.mem_filterMap.mp h
  exact List.mem_of_getElem? hi
def s_tbl : List (String × Nat × String) := [("WageCourt$Lexer", 28, "least years trade town who task weekday half worked week wet rate"), ("WageCourt$Lexer", 34, "binds over class choose load extra round strike margin"), ("WageCourt$Lexer", 36, "award vary order agree firm from"), ("WageCourt$Lexer", 38, "if tasks follows plus each most highest bars is or and not ticket")]
def s_len : List Nat := [65, 54, 32, 65]
def s_b0 : List Int32 := [108, 101, 97, 115, 116, 32, 121, 101, 97, 114, 115, 32, 116, 114, 97, 100, 101, 32, 116, 111, 119, 110, 32, 119, 104, 111, 32, 116, 97, 115, 107, 32, 119, 101, 101, 107, 100, 97, 121, 32, 104, 97, 108, 102, 32, 119, 111, 114, 107, 101, 100, 32, 119, 101, 101, 107, 32, 119, 101, 116, 32, 114, 97, 116, 101]
def s_b1 : List Int32 := [98, 105, 110, 100, 115, 32, 111, 118, 101, 114, 32, 99, 108, 97, 115, 115, 32, 99, 104, 111, 111, 115, 101, 32, 108, 111, 97, 100, 32, 101, 120, 116, 114, 97, 32, 114, 111, 117, 110, 100, 32, 115, 116, 114, 105, 107, 101, 32, 109, 97, 114, 103, 105, 110]
def s_b2 : List Int32 := [97, 119, 97, 114, 100, 32, 118, 97, 114, 121, 32, 111, 114, 100, 101, 114, 32, 97, 103, 114, 101, 101, 32, 102, 105, 114, 109, 32, 102, 114, 111, 109]
def s_b3 : List Int32 := [105, 102, 32, 116, 97, 115, 107, 115, 32, 102, 111, 108, 108, 111, 119, 115, 32, 112, 108, 117, 115, 32, 101, 97, 99, 104, 32, 109, 111, 115, 116, 32, 104, 105, 103, 104, 101, 115, 116, 32, 98, 97, 114, 115, 32, 105, 115, 32, 111, 114, 32, 97, 110, 100, 32, 110, 111, 116, 32, 116, 105, 99, 107, 101, 116]
def s_byt : List (List Int32) := [s_b0, s_b1, s_b2, s_b3]
